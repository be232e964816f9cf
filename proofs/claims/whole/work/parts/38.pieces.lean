/-! PURE: pieces, on both sides -/
def Qy (x y : Option Int32) : Prop := ∃ r, x = some r ∧ y = some r
theorem Qy.mk {r : Int32} : Qy (some r) (some r) := ⟨r, rfl, rfl⟩
theorem lt_mul_iff {f k w : Nat} (hw : 0 < w) : f / w ≤ k ↔ f < (k + 1) * w := by
  rw [← Nat.lt_succ_iff, Nat.div_lt_iff_lt_mul hw]
theorem t_hasPiece {F : Nat} {τ : St} (h : NN (nw τ)) {l k : Nat} (hl : l < nl (nw τ)) (hk : k < 2 ^ 31) : f_X8_hasPiece F τ (nI l) (nI k) = some (bI (decide (k < 120) && hp (nw τ) l k)) := by
  obtain ⟨b1, b2, b3, b4, b5, b6, b7, b8⟩ := NNb h
  have ht := h.2.1.1 l hl
  have hf := fk_le h.2.1 hl
  have h1 : τ.2.1 19 1 = nI (wd (nw τ)) := h.1.2.1.1
  have hw := lt_mul_iff (f := fk (nw τ) l) (k := k) (w := wd (nw τ)) (by omega)
  have hq := Nat.zero_le (fk (nw τ) l / wd (nw τ))
  have hq2 : fk (nw τ) l / wd (nw τ) ≤ fk (nw τ) l := Nat.div_le_self _ _
  unfold f_X8_hasPiece hp
  have hlx : isN (nI l) (nl (nw τ)) = true := by rw [isN_n (by omega)]; exact decide_eq_true hl
  by_cases c1 : fk (nw τ) l / wd (nw τ) ≤ k
  · have c1' := hw.mp c1
    by_cases c2 : k < 120
    · have hm2 : k * wd (nw τ) ≤ 120 * 8 := Nat.mul_le_mul (by omega) b4
      have hm : (k + 1) * wd (nw τ) ≤ 120 * 8 := Nat.mul_le_mul (by omega) b4
      by_cases c3 : k * wd (nw τ) < tp (nw τ) l
      · simp (disch := omega) only [↓bnd_i, ↓cal_s, ↓cal_n, ↓cal2_s, ↓cal2_n, cal_s, cal2_s, ↓reduceIte, fa_lit, m1_lit, m2_lit, m1_lt, m2_lt, m1_eq, m2_eq, m1_le, m2_le, le_m1, le_m2, lt_m1, lt_m2, m12, m21, m1_m1, n_lt, n_le, n_eq, lt_t, lt_f, le_t, le_f, eq_t, eq_f, n_cl, inb_ok, n_add, pk_mul, pk_sub, n_rem, n_div, n_dec, n_mx, n_mn, eq_m1, eq_m2, ss_same, ss_ne, ss_r, ss_l, sr_f, sr_l, sr_same, sr_ne, sw_f, sw_l, sw_at, sw_ne, pk_us, pk_un, bI_t, bI_f, not_true_eq_false, not_false_eq_true, eq_self, and_true, true_and, and_false, false_and, or_true, true_or, or_false, false_or, decide_true, decide_false, Bool.false_eq_true, Bool.true_eq_false, ↓cal_w (t_isLine h.1 _), t_isLine h.1 _, ↓cal_w (t_firstPiece h.1 h.2.1 hl), t_firstPiece h.1 h.2.1 hl, ↓cal_w (t_placeOf (τ := τ) (l := l) (by omega)), t_placeOf (τ := τ) (l := l) (by omega), hlx, h1, ht.1, Bool.true_and, Bool.and_true]
      · simp (disch := omega) only [↓bnd_i, ↓cal_s, ↓cal_n, ↓cal2_s, ↓cal2_n, cal_s, cal2_s, ↓reduceIte, fa_lit, m1_lit, m2_lit, m1_lt, m2_lt, m1_eq, m2_eq, m1_le, m2_le, le_m1, le_m2, lt_m1, lt_m2, m12, m21, m1_m1, n_lt, n_le, n_eq, lt_t, lt_f, le_t, le_f, eq_t, eq_f, n_cl, inb_ok, n_add, pk_mul, pk_sub, n_rem, n_div, n_dec, n_mx, n_mn, eq_m1, eq_m2, ss_same, ss_ne, ss_r, ss_l, sr_f, sr_l, sr_same, sr_ne, sw_f, sw_l, sw_at, sw_ne, pk_us, pk_un, bI_t, bI_f, not_true_eq_false, not_false_eq_true, eq_self, and_true, true_and, and_false, false_and, or_true, true_or, or_false, false_or, decide_true, decide_false, Bool.false_eq_true, Bool.true_eq_false, ↓cal_w (t_isLine h.1 _), t_isLine h.1 _, ↓cal_w (t_firstPiece h.1 h.2.1 hl), t_firstPiece h.1 h.2.1 hl, ↓cal_w (t_placeOf (τ := τ) (l := l) (by omega)), t_placeOf (τ := τ) (l := l) (by omega), hlx, h1, ht.1, Bool.true_and, Bool.and_false]
    · simp (disch := omega) only [↓bnd_i, ↓cal_s, ↓cal_n, ↓cal2_s, ↓cal2_n, cal_s, cal2_s, ↓reduceIte, fa_lit, m1_lit, m2_lit, m1_lt, m2_lt, m1_eq, m2_eq, m1_le, m2_le, le_m1, le_m2, lt_m1, lt_m2, m12, m21, m1_m1, n_lt, n_le, n_eq, lt_t, lt_f, le_t, le_f, eq_t, eq_f, n_cl, inb_ok, n_add, pk_mul, pk_sub, n_rem, n_div, n_dec, n_mx, n_mn, eq_m1, eq_m2, ss_same, ss_ne, ss_r, ss_l, sr_f, sr_l, sr_same, sr_ne, sw_f, sw_l, sw_at, sw_ne, pk_us, pk_un, bI_t, bI_f, not_true_eq_false, not_false_eq_true, eq_self, and_true, true_and, and_false, false_and, or_true, true_or, or_false, false_or, decide_true, decide_false, Bool.false_eq_true, Bool.true_eq_false, ↓cal_w (t_isLine h.1 _), t_isLine h.1 _, ↓cal_w (t_firstPiece h.1 h.2.1 hl), t_firstPiece h.1 h.2.1 hl, ↓cal_w (t_placeOf (τ := τ) (l := l) (by omega)), t_placeOf (τ := τ) (l := l) (by omega), hlx, h1, ht.1, Bool.false_and]
  · have c1' : ¬ fk (nw τ) l < (k + 1) * wd (nw τ) := fun c => c1 (hw.mpr c)
    simp (disch := omega) only [↓bnd_i, ↓cal_s, ↓cal_n, ↓cal2_s, ↓cal2_n, cal_s, cal2_s, ↓reduceIte, fa_lit, m1_lit, m2_lit, m1_lt, m2_lt, m1_eq, m2_eq, m1_le, m2_le, le_m1, le_m2, lt_m1, lt_m2, m12, m21, m1_m1, n_lt, n_le, n_eq, lt_t, lt_f, le_t, le_f, eq_t, eq_f, n_cl, inb_ok, n_add, pk_mul, pk_sub, n_rem, n_div, n_dec, n_mx, n_mn, eq_m1, eq_m2, ss_same, ss_ne, ss_r, ss_l, sr_f, sr_l, sr_same, sr_ne, sw_f, sw_l, sw_at, sw_ne, pk_us, pk_un, bI_t, bI_f, not_true_eq_false, not_false_eq_true, eq_self, and_true, true_and, and_false, false_and, or_true, true_or, or_false, false_or, decide_true, decide_false, Bool.false_eq_true, Bool.true_eq_false, ↓cal_w (t_isLine h.1 _), t_isLine h.1 _, ↓cal_w (t_firstPiece h.1 h.2.1 hl), t_firstPiece h.1 h.2.1 hl, ↓cal_w (t_placeOf (τ := τ) (l := l) (by omega)), t_placeOf (τ := τ) (l := l) (by omega), hlx, h1, ht.1, eq_false c1', Bool.and_false]
theorem t_hasPieceN {F : Nat} {τ : St} (h : NN (nw τ)) {x y : Int32} (hx : isN x (nl (nw τ)) = false ∨ isN y 120 = false) : f_X8_hasPiece F τ x y = some (nI 0) := by
  obtain ⟨b1, b2, b3, b4, b5, b6, b7, b8⟩ := NNb h
  cases c : isN x (nl (nw τ))
  · unfold f_X8_hasPiece
    simp (disch := omega) only [↓bnd_i, ↓cal_s, ↓cal_n, ↓cal2_s, ↓cal2_n, cal_s, cal2_s, ↓reduceIte, fa_lit, m1_lit, m2_lit, m1_lt, m2_lt, m1_eq, m2_eq, m1_le, m2_le, le_m1, le_m2, lt_m1, lt_m2, m12, m21, m1_m1, n_lt, n_le, n_eq, lt_t, lt_f, le_t, le_f, eq_t, eq_f, n_cl, inb_ok, n_add, pk_mul, pk_sub, n_rem, n_div, n_dec, n_mx, n_mn, eq_m1, eq_m2, ss_same, ss_ne, ss_r, ss_l, sr_f, sr_l, sr_same, sr_ne, sw_f, sw_l, sw_at, sw_ne, pk_us, pk_un, bI_t, bI_f, not_true_eq_false, not_false_eq_true, eq_self, and_true, true_and, and_false, false_and, or_true, true_or, or_false, false_or, decide_true, decide_false, Bool.false_eq_true, Bool.true_eq_false, ↓cal_w (t_isLine h.1 _), t_isLine h.1 _, c]
  · obtain ⟨l, hl, rfl⟩ := isN_e c (by omega)
    have hy : isN y 120 = false := by
      rcases hx with hx | hx
      · rw [c] at hx; cases hx
      · exact hx
    rcases n_ex y with hy0 | ⟨k, hk, rfl⟩
    · have hf := fk_le h.2.1 hl
      have ht := h.2.1.1 l hl
      have hq2 : fk (nw τ) l / wd (nw τ) ≤ fk (nw τ) l := Nat.div_le_self _ _
      have hy1 : (y < nI (fk (nw τ) l / wd (nw τ))) = True := eq_true (neg_lt hy0 (by omega))
      unfold f_X8_hasPiece
      simp (disch := omega) only [↓bnd_i, ↓cal_s, ↓cal_n, ↓cal2_s, ↓cal2_n, cal_s, cal2_s, ↓reduceIte, fa_lit, m1_lit, m2_lit, m1_lt, m2_lt, m1_eq, m2_eq, m1_le, m2_le, le_m1, le_m2, lt_m1, lt_m2, m12, m21, m1_m1, n_lt, n_le, n_eq, lt_t, lt_f, le_t, le_f, eq_t, eq_f, n_cl, inb_ok, n_add, pk_mul, pk_sub, n_rem, n_div, n_dec, n_mx, n_mn, eq_m1, eq_m2, ss_same, ss_ne, ss_r, ss_l, sr_f, sr_l, sr_same, sr_ne, sw_f, sw_l, sw_at, sw_ne, pk_us, pk_un, bI_t, bI_f, not_true_eq_false, not_false_eq_true, eq_self, and_true, true_and, and_false, false_and, or_true, true_or, or_false, false_or, decide_true, decide_false, Bool.false_eq_true, Bool.true_eq_false, ↓cal_w (t_isLine h.1 _), t_isLine h.1 _, ↓cal_w (t_firstPiece h.1 h.2.1 hl), t_firstPiece h.1 h.2.1 hl, c, hy1]
    · rw [isN_n hk] at hy
      rw [t_hasPiece h hl hk, hy]
      rfl
theorem t_keptOf {F : Nat} {τ : St} (h : NN (nw τ)) {l k : Nat} (hl : l < 8) (hk : k < 120) : f_X8_keptOf F τ (nI l) (nI k) = some (nI (kp (nw τ) l k)) := by
  have e := (h.2.2.1.1 l k hl hk).1
  unfold f_X8_keptOf
  simp (disch := omega) only [↓bnd_i, ↓cal_s, ↓cal_n, ↓cal2_s, ↓cal2_n, cal_s, cal2_s, ↓reduceIte, fa_lit, m1_lit, m2_lit, m1_lt, m2_lt, m1_eq, m2_eq, m1_le, m2_le, le_m1, le_m2, lt_m1, lt_m2, m12, m21, m1_m1, n_lt, n_le, n_eq, lt_t, lt_f, le_t, le_f, eq_t, eq_f, n_cl, inb_ok, n_add, pk_mul, pk_sub, n_rem, n_div, n_dec, n_mx, n_mn, eq_m1, eq_m2, ss_same, ss_ne, ss_r, ss_l, sr_f, sr_l, sr_same, sr_ne, sw_f, sw_l, sw_at, sw_ne, pk_us, pk_un, bI_t, bI_f, not_true_eq_false, not_false_eq_true, eq_self, and_true, true_and, and_false, false_and, or_true, true_or, or_false, false_or, decide_true, decide_false, Bool.false_eq_true, Bool.true_eq_false, show τ.2.1 19 (420 + 120 * l + k) = nI (kp (nw τ) l k) from e]
/-- either both say that there is no such piece, or there is -/
theorem pieceX {N : Nat → Int32} (h : NN N) (x y : Int32) : (isN x (nl N) = false ∨ isN y 120 = false) ∨ ∃ l k, l < nl N ∧ k < 120 ∧ x = nI l ∧ y = nI k := by
  obtain ⟨b1, b2, b3, b4, b5, b6, b7, b8⟩ := NNb h
  cases c : isN x (nl N)
  · exact Or.inl (Or.inl rfl)
  · cases d : isN y 120
    · exact Or.inl (Or.inr rfl)
    · obtain ⟨l, hl, e⟩ := isN_e c (by omega)
      obtain ⟨k, hk, e2⟩ := isN_e d (by omega)
      exact Or.inr ⟨l, k, hl, hk, e, e2⟩
theorem q_piece {F : Nat} {σ τ : St} (C : Core σ τ) (x y : Int32) : Qy (f_X7_piece F σ x y) (f_X8_piece F τ x y) := by
  obtain ⟨b1, b2, b3, b4, b5, b6, b7, b8⟩ := NNb C.1
  unfold f_X7_piece f_X8_piece
  rcases pieceX C.1 x y with c | ⟨l, k, hl, hk, rfl, rfl⟩
  · simp (disch := omega) only [↓bnd_i, ↓cal_s, ↓cal_n, ↓cal2_s, ↓cal2_n, cal_s, cal2_s, ↓reduceIte, fa_lit, m1_lit, m2_lit, m1_lt, m2_lt, m1_eq, m2_eq, m1_le, m2_le, le_m1, le_m2, lt_m1, lt_m2, m12, m21, m1_m1, n_lt, n_le, n_eq, lt_t, lt_f, le_t, le_f, eq_t, eq_f, n_cl, inb_ok, n_add, pk_mul, pk_sub, n_rem, n_div, n_dec, n_mx, n_mn, eq_m1, eq_m2, ss_same, ss_ne, ss_r, ss_l, sr_f, sr_l, sr_same, sr_ne, sw_f, sw_l, sw_at, sw_ne, pk_us, pk_un, bI_t, bI_f, not_true_eq_false, not_false_eq_true, eq_self, and_true, true_and, and_false, false_and, or_true, true_or, or_false, false_or, decide_true, decide_false, Bool.false_eq_true, Bool.true_eq_false, ↓cal_w (d_conditionOfN C.1 C.2 c), d_conditionOfN C.1 C.2 c, ↓cal_w (t_hasPieceN C.1 c), t_hasPieceN C.1 c]
    exact Qy.mk
  · cases c : hp (nw τ) l k
    · simp (disch := omega) only [↓bnd_i, ↓cal_s, ↓cal_n, ↓cal2_s, ↓cal2_n, cal_s, cal2_s, ↓reduceIte, fa_lit, m1_lit, m2_lit, m1_lt, m2_lt, m1_eq, m2_eq, m1_le, m2_le, le_m1, le_m2, lt_m1, lt_m2, m12, m21, m1_m1, n_lt, n_le, n_eq, lt_t, lt_f, le_t, le_f, eq_t, eq_f, n_cl, inb_ok, n_add, pk_mul, pk_sub, n_rem, n_div, n_dec, n_mx, n_mn, eq_m1, eq_m2, ss_same, ss_ne, ss_r, ss_l, sr_f, sr_l, sr_same, sr_ne, sw_f, sw_l, sw_at, sw_ne, pk_us, pk_un, bI_t, bI_f, not_true_eq_false, not_false_eq_true, eq_self, and_true, true_and, and_false, false_and, or_true, true_or, or_false, false_or, decide_true, decide_false, Bool.false_eq_true, Bool.true_eq_false, ↓cal_w (d_conditionOf C.1 C.2 hl hk), d_conditionOf C.1 C.2 hl hk, ↓cal_w (t_hasPiece C.1 hl (show k < 2 ^ 31 by omega)), t_hasPiece C.1 hl (show k < 2 ^ 31 by omega), ↓cal_w (t_keptOf C.1 (show l < 8 by omega) hk), t_keptOf C.1 (show l < 8 by omega) hk, c, Bool.and_false]
      exact Qy.mk
    · simp (disch := omega) only [↓bnd_i, ↓cal_s, ↓cal_n, ↓cal2_s, ↓cal2_n, cal_s, cal2_s, ↓reduceIte, fa_lit, m1_lit, m2_lit, m1_lt, m2_lt, m1_eq, m2_eq, m1_le, m2_le, le_m1, le_m2, lt_m1, lt_m2, m12, m21, m1_m1, n_lt, n_le, n_eq, lt_t, lt_f, le_t, le_f, eq_t, eq_f, n_cl, inb_ok, n_add, pk_mul, pk_sub, n_rem, n_div, n_dec, n_mx, n_mn, eq_m1, eq_m2, ss_same, ss_ne, ss_r, ss_l, sr_f, sr_l, sr_same, sr_ne, sw_f, sw_l, sw_at, sw_ne, pk_us, pk_un, bI_t, bI_f, not_true_eq_false, not_false_eq_true, eq_self, and_true, true_and, and_false, false_and, or_true, true_or, or_false, false_or, decide_true, decide_false, Bool.false_eq_true, Bool.true_eq_false, ↓cal_w (d_conditionOf C.1 C.2 hl hk), d_conditionOf C.1 C.2 hl hk, ↓cal_w (t_hasPiece C.1 hl (show k < 2 ^ 31 by omega)), t_hasPiece C.1 hl (show k < 2 ^ 31 by omega), ↓cal_w (t_keptOf C.1 (show l < 8 by omega) hk), t_keptOf C.1 (show l < 8 by omega) hk, c, Bool.and_true]
      exact Qy.mk
section
variable {N : Nat → Int32} {l k v : Nat}
theorem kp_low {j : Nat} {w : Int32} (hj : j < 420) : upd N (420 + 120 * l + k) w j = N j := pk_un (by omega)
theorem kp_high {j : Nat} {w : Int32} (hl : l < 8) (hk : k < 120) (hj : 1380 ≤ j) : upd N (420 + 120 * l + k) w j = N j := pk_un (by omega)
theorem kp_kp (hl : l < 8) (hk : k < 120) (hv : v < 4) {l' k' : Nat} (hl' : l' < 8) (hk' : k' < 120) : kp (upd N (420 + 120 * l + k) (nI v)) l' k' = if l' = l ∧ k' = k then v else kp N l' k' := by
  unfold kp
  by_cases c : l' = l ∧ k' = k
  · rw [if_pos c, c.1, c.2, pk_us, n_cl (by omega)]
  · rw [if_neg c, pk_un (by omega)]
end
theorem NN_kp {N : Nat → Int32} (h : NN N) {l k v : Nat} (hl : l < nl N) (hk : k < 120) (hv : v < 4) : NN (upd N (420 + 120 * l + k) (nI v)) := by
  obtain ⟨b1, b2, b3, b4, b5, b6, b7, b8⟩ := NNb h
  obtain ⟨h1, h2, h3, h4, h5⟩ := h
  have e : ∀ j, j < 420 → upd N (420 + 120 * l + k) (nI v) j = N j := fun j hj => kp_low hj
  have e2 : ∀ j, 1380 ≤ j → upd N (420 + 120 * l + k) (nI v) j = N j := fun j hj => kp_high (by omega) hk hj
  generalize hM : upd N (420 + 120 * l + k) (nI v) = M at e e2 ⊢
  have p1 : pg M = pg N := by unfold pg; rw [e 0 (by omega)]
  have p2 : wd M = wd N := by unfold wd; rw [e 1 (by omega)]
  have p3 : nl M = nl N := by unfold nl; rw [e 2 (by omega)]
  have p4 : md M = md N := by unfold md; rw [e 4 (by omega)]
  have p5 : nc M = nc N := by unfold nc; rw [e 5 (by omega)]
  have p6 : ∀ l, l < 8 → tp M l = tp N l := fun l hl => by unfold tp; rw [e _ (by omega)]
  have p7 : ∀ l, l < 8 → pr M l = pr N l := fun l hl => by unfold pr; rw [e _ (by omega)]
  have p8 : ∀ l, l < 8 → fk M l = fk N l := fun l hl => by unfold fk; rw [e _ (by omega)]
  refine ⟨?_, ?_, ?_, ?_, ?_⟩
  · unfold N1 at *
    rw [p1, p2, p3, p4, p5, e 0 (by omega), e 1 (by omega), e 2 (by omega), e 3 (by omega), e 4 (by omega), e 5 (by omega), e 6 (by omega)]
    exact h1
  · unfold N2
    rw [p3, e 21 (by omega), e 22 (by omega)]
    refine ⟨fun l hl => ?_, fun l h0 hl => ?_, h2.2.2⟩
    · rw [p6 l (by omega), e _ (by omega)]; exact h2.1 l hl
    · have q := h2.2.1 l h0 hl
      rw [p6 l (by omega), p7 l (by omega), p8 l (by omega), p6 _ (by omega), e _ (by omega), e _ (by omega)]; exact q
  · unfold N3
    rw [p3]
    refine ⟨fun l' k' hl' hk' => ?_, fun l' k' hn hl' hk' => ?_⟩
    · rw [← hM, kp_kp (by omega) hk hv hl' hk']
      by_cases c : l' = l ∧ k' = k
      · rw [if_pos c, c.1, c.2, pk_us]; exact ⟨rfl, hv⟩
      · rw [if_neg c, pk_un (by omega)]; exact h3.1 l' k' hl' hk'
    · rw [← hM, kp_kp (by omega) hk hv hl' hk', if_neg (by omega)]; exact h3.2 l' k' hn hl' hk'
  · intro l p hl hp1 hp2
    rw [p3] at hl
    rw [p8 l (by omega)] at hp1
    rw [p6 l (by omega)] at hp2
    rw [p1, e2 _ (by unfold ra; omega), e2 _ (by unfold ra; omega)]
    exact h4 l p hl hp1 hp2
  · intro c hc
    rw [p5] at hc
    obtain ⟨c1, c2, c3, c4⟩ := h5 c hc
    unfold co cd tk tl tw at *
    rw [p1, e _ (by omega), e _ (by omega), e _ (by omega)]
    refine ⟨c1, c2, c3, fun g hg => ?_⟩
    rw [e _ (by omega), e _ (by omega), e _ (by omega)]
    exact c4 g hg
theorem JJ_kp {σ : St} {N : Nat → Int32} (h : NN N) (j : JJ σ N) {l k v : Nat} (hl : l < nl N) (hk : k < 120) (hv : v < 4) : JJ (sr σ 18 (l * 120 + k) (nI v)) (upd N (420 + 120 * l + k) (nI v)) := by
  obtain ⟨b1, b2, b3, b4, b5, b6, b7, b8⟩ := NNb h
  have e : ∀ j, j < 420 → upd N (420 + 120 * l + k) (nI v) j = N j := fun j hj => kp_low hj
  have e2 : ∀ j, 1380 ≤ j → upd N (420 + 120 * l + k) (nI v) j = N j := fun j hj => kp_high (by omega) hk hj
  have e3 := fun l' k' hl' hk' => kp_kp (N := N) (l := l) (k := k) (v := v) (by omega) hk hv (l' := l') (k' := k') hl' hk'
  generalize hM : upd N (420 + 120 * l + k) (nI v) = M at e e2 e3 ⊢
  have p3 : nl M = nl N := by unfold nl; rw [e 2 (by omega)]
  have p4 : md M = md N := by unfold md; rw [e 4 (by omega)]
  have p5 : nc M = nc N := by unfold nc; rw [e 5 (by omega)]
  have p6 : ∀ l, l < 8 → tp M l = tp N l := fun l hl => by unfold tp; rw [e _ (by omega)]
  have p7 : ∀ l, l < 8 → pr M l = pr N l := fun l hl => by unfold pr; rw [e _ (by omega)]
  have p8 : ∀ l, l < 8 → fk M l = fk N l := fun l hl => by unfold fk; rw [e _ (by omega)]
  have p9 : ∀ l, l ≤ 8 → sm M l = sm N l := by
    intro l
    induction l with
    | zero => intro _; rfl
    | succ l ih => intro hl; simp only [sm]; rw [ih (by omega), p6 l (by omega), p8 l (by omega)]
  obtain ⟨⟨a0, al, ap, am⟩, ⟨ar, ac, as, aq⟩, ⟨ao, ad, ax⟩⟩ := j
  refine ⟨⟨?_, ?_, ?_, ?_⟩, ⟨?_, ?_, ?_, ?_⟩, ⟨?_, ?_, ?_⟩⟩
  · rw [sr_f, e 0 (by omega), e 1 (by omega), e 2 (by omega), e 4 (by omega), e 5 (by omega)]; exact a0
  · intro l hl
    rw [p3] at hl
    rw [sr_ne (by omega), sr_ne (by omega), sr_ne (by omega), sr_ne (by omega), p6 l (by omega), p7 l (by omega), p8 l (by omega), p9 l (by omega)]
    exact al l hl
  · rw [sr_ne (by omega)]; exact ap
  · rw [p4, p3, p9 _ (by omega)]; exact am
  · intro l p hl hp1 hp2
    rw [p3] at hl
    rw [p8 l (by omega)] at hp1 ⊢
    rw [p6 l (by omega)] at hp2
    rw [sr_ne (by omega), sr_ne (by omega), sr_ne (by omega), p9 l (by omega), e2 _ (by unfold ra; omega), e2 _ (by unfold ra; omega), e2 _ (by unfold ra; omega)]
    exact ar l p hl hp1 hp2
  · intro l' k' hl' hk'
    rw [p3] at hl'
    rw [sr_same, e3 l' k' (by omega) hk']
    by_cases c : l' = l ∧ k' = k
    · rw [if_pos c, c.1, c.2, Nat.mul_comm 120, pk_us]
    · rw [if_neg c, pk_un (by omega)]; exact ac l' k' hl' hk'
  · rw [sr_ne (by omega)]; exact as
  · intro i hi
    rw [sr_same]
    by_cases c : i = l * 120 + k
    · rw [c, pk_us]; exact ⟨v, hv, rfl⟩
    · rw [pk_un c]; exact aq i hi
  · rw [sr_f, p5, ao]
    congr 1
    exact bs_cong (fun c hc => by unfold co; rw [e _ (by omega)])
  · rw [sr_f, p5, ad]
    congr 1
    exact bs_cong (fun c hc => by unfold cd; rw [e _ (by omega)])
  · intro c hc
    rw [p5] at hc
    obtain ⟨x1, x2, x3, x4⟩ := ax c hc
    rw [sr_ne (by omega), sr_ne (by omega), sr_ne (by omega), sr_ne (by omega), sr_ne (by omega), sr_ne (by omega), e _ (by omega), e _ (by omega)]
    have ek : ∀ g, g < 8 → tk M c g = tk N c g := fun g hg => by unfold tk; rw [e _ (by omega)]
    refine ⟨x1, x2, ?_, ?_⟩
    · rw [x3]
      congr 1
      exact (bs_cong (fun g hg => ek g hg)).symm
    · intro g hg ht
      rw [ek g hg] at ht
      obtain ⟨y1, y2, y3⟩ := x4 g hg ht
      unfold tl tw
      rw [e _ (by omega), e _ (by omega), e _ (by omega)]
      exact ⟨y1, y2, y3⟩
/-- a piece is set on both sides -/
theorem op_kp {σ τ : St} (C : Core σ τ) {l k v : Nat} (hl : l < nl (nw τ)) (hk : k < 120) (hv : v < 4) (r : Int32) : Op σ τ (some (r, sr σ 18 (l * 120 + k) (nI v))) (some (r, sr τ 19 (420 + 120 * l + k) (nI v))) := by
  refine ⟨r, _, _, rfl, rfl, ?_, (Fr.refl σ).sr (by omega) (by omega), (FrM.refl τ).sr (by omega) (by omega), ?_⟩
  · unfold Core nw
    rw [sr_same]
    exact ⟨NN_kp C.1 hl hk hv, JJ_kp C.1 C.2 hl hk hv⟩
  · unfold nw
    rw [sr_same, kp_low (by omega)]
theorem op_lose {F : Nat} {σ τ : St} (C : Core σ τ) (x y : Int32) : Op σ τ (f_X7_lose F σ x y) (f_X8_lose F τ x y) := by
  obtain ⟨b1, b2, b3, b4, b5, b6, b7, b8⟩ := NNb C.1
  unfold f_X7_lose f_X8_lose
  rcases pieceX C.1 x y with c | ⟨l, k, hl, hk, rfl, rfl⟩
  · simp (disch := omega) only [↓bnd_i, ↓cal_s, ↓cal_n, ↓cal2_s, ↓cal2_n, cal_s, cal2_s, ↓reduceIte, fa_lit, m1_lit, m2_lit, m1_lt, m2_lt, m1_eq, m2_eq, m1_le, m2_le, le_m1, le_m2, lt_m1, lt_m2, m12, m21, m1_m1, n_lt, n_le, n_eq, lt_t, lt_f, le_t, le_f, eq_t, eq_f, n_cl, inb_ok, n_add, pk_mul, pk_sub, n_rem, n_div, n_dec, n_mx, n_mn, eq_m1, eq_m2, ss_same, ss_ne, ss_r, ss_l, sr_f, sr_l, sr_same, sr_ne, sw_f, sw_l, sw_at, sw_ne, pk_us, pk_un, bI_t, bI_f, not_true_eq_false, not_false_eq_true, eq_self, and_true, true_and, and_false, false_and, or_true, true_or, or_false, false_or, decide_true, decide_false, Bool.false_eq_true, Bool.true_eq_false, ↓cal_w (d_conditionOfN C.1 C.2 c), d_conditionOfN C.1 C.2 c, ↓cal_w (t_hasPieceN C.1 c), t_hasPieceN C.1 c]
    exact Op.same C _
  · have h4 := (C.1.2.2.1.1 l k (by omega) hk).2
    cases c : hp (nw τ) l k
    · simp (disch := omega) only [↓bnd_i, ↓cal_s, ↓cal_n, ↓cal2_s, ↓cal2_n, cal_s, cal2_s, ↓reduceIte, fa_lit, m1_lit, m2_lit, m1_lt, m2_lt, m1_eq, m2_eq, m1_le, m2_le, le_m1, le_m2, lt_m1, lt_m2, m12, m21, m1_m1, n_lt, n_le, n_eq, lt_t, lt_f, le_t, le_f, eq_t, eq_f, n_cl, inb_ok, n_add, pk_mul, pk_sub, n_rem, n_div, n_dec, n_mx, n_mn, eq_m1, eq_m2, ss_same, ss_ne, ss_r, ss_l, sr_f, sr_l, sr_same, sr_ne, sw_f, sw_l, sw_at, sw_ne, pk_us, pk_un, bI_t, bI_f, not_true_eq_false, not_false_eq_true, eq_self, and_true, true_and, and_false, false_and, or_true, true_or, or_false, false_or, decide_true, decide_false, Bool.false_eq_true, Bool.true_eq_false, ↓cal_w (d_conditionOf C.1 C.2 hl hk), d_conditionOf C.1 C.2 hl hk, ↓cal_w (t_hasPiece C.1 hl (show k < 2 ^ 31 by omega)), t_hasPiece C.1 hl (show k < 2 ^ 31 by omega), ↓cal_w (t_keptOf C.1 (show l < 8 by omega) hk), t_keptOf C.1 (show l < 8 by omega) hk, c, Bool.and_false]
      exact Op.same C _
    · by_cases d : kp (nw τ) l k = 0
      · simp (disch := omega) only [↓bnd_i, ↓cal_s, ↓cal_n, ↓cal2_s, ↓cal2_n, cal_s, cal2_s, ↓reduceIte, fa_lit, m1_lit, m2_lit, m1_lt, m2_lt, m1_eq, m2_eq, m1_le, m2_le, le_m1, le_m2, lt_m1, lt_m2, m12, m21, m1_m1, n_lt, n_le, n_eq, lt_t, lt_f, le_t, le_f, eq_t, eq_f, n_cl, inb_ok, n_add, pk_mul, pk_sub, n_rem, n_div, n_dec, n_mx, n_mn, eq_m1, eq_m2, ss_same, ss_ne, ss_r, ss_l, sr_f, sr_l, sr_same, sr_ne, sw_f, sw_l, sw_at, sw_ne, pk_us, pk_un, bI_t, bI_f, not_true_eq_false, not_false_eq_true, eq_self, and_true, true_and, and_false, false_and, or_true, true_or, or_false, false_or, decide_true, decide_false, Bool.false_eq_true, Bool.true_eq_false, ↓cal_w (d_conditionOf C.1 C.2 hl hk), d_conditionOf C.1 C.2 hl hk, ↓cal_w (t_hasPiece C.1 hl (show k < 2 ^ 31 by omega)), t_hasPiece C.1 hl (show k < 2 ^ 31 by omega), ↓cal_w (t_keptOf C.1 (show l < 8 by omega) hk), t_keptOf C.1 (show l < 8 by omega) hk, c, d, Bool.and_true]
        exact Op.same C _
      · simp (disch := omega) only [↓bnd_i, ↓cal_s, ↓cal_n, ↓cal2_s, ↓cal2_n, cal_s, cal2_s, ↓reduceIte, fa_lit, m1_lit, m2_lit, m1_lt, m2_lt, m1_eq, m2_eq, m1_le, m2_le, le_m1, le_m2, lt_m1, lt_m2, m12, m21, m1_m1, n_lt, n_le, n_eq, lt_t, lt_f, le_t, le_f, eq_t, eq_f, n_cl, inb_ok, n_add, pk_mul, pk_sub, n_rem, n_div, n_dec, n_mx, n_mn, eq_m1, eq_m2, ss_same, ss_ne, ss_r, ss_l, sr_f, sr_l, sr_same, sr_ne, sw_f, sw_l, sw_at, sw_ne, pk_us, pk_un, bI_t, bI_f, not_true_eq_false, not_false_eq_true, eq_self, and_true, true_and, and_false, false_and, or_true, true_or, or_false, false_or, decide_true, decide_false, Bool.false_eq_true, Bool.true_eq_false, ↓cal_w (d_conditionOf C.1 C.2 hl hk), d_conditionOf C.1 C.2 hl hk, ↓cal_w (t_hasPiece C.1 hl (show k < 2 ^ 31 by omega)), t_hasPiece C.1 hl (show k < 2 ^ 31 by omega), ↓cal_w (t_keptOf C.1 (show l < 8 by omega) hk), t_keptOf C.1 (show l < 8 by omega) hk, ↓cal_w (d_setCondition C.1 C.2 hl hk (show 0 < 4 by omega)), d_setCondition C.1 C.2 hl hk (show 0 < 4 by omega), c, Bool.and_true]
        exact op_kp C hl hk (by omega) _
theorem op_twice {F : Nat} {σ τ : St} (C : Core σ τ) (x y z : Int32) : Op σ τ (f_X7_twice F σ x y z) (f_X8_twice F τ x y z) := by
  obtain ⟨b1, b2, b3, b4, b5, b6, b7, b8⟩ := NNb C.1
  have key : ∀ v, v < 4 → Op σ τ (cal (f_X2_conditionOf F σ x y) (fun r1 => f_X7_twice_20 F σ x y r1 (nI v))) (f_X8_twice_9 F τ x y (nI v)) := by
    intro v hv
    unfold f_X7_twice_20 f_X8_twice_9
    rcases pieceX C.1 x y with c | ⟨l, k, hl, hk, rfl, rfl⟩
    · simp (disch := omega) only [↓bnd_i, ↓cal_s, ↓cal_n, ↓cal2_s, ↓cal2_n, cal_s, cal2_s, ↓reduceIte, fa_lit, m1_lit, m2_lit, m1_lt, m2_lt, m1_eq, m2_eq, m1_le, m2_le, le_m1, le_m2, lt_m1, lt_m2, m12, m21, m1_m1, n_lt, n_le, n_eq, lt_t, lt_f, le_t, le_f, eq_t, eq_f, n_cl, inb_ok, n_add, pk_mul, pk_sub, n_rem, n_div, n_dec, n_mx, n_mn, eq_m1, eq_m2, ss_same, ss_ne, ss_r, ss_l, sr_f, sr_l, sr_same, sr_ne, sw_f, sw_l, sw_at, sw_ne, pk_us, pk_un, bI_t, bI_f, not_true_eq_false, not_false_eq_true, eq_self, and_true, true_and, and_false, false_and, or_true, true_or, or_false, false_or, decide_true, decide_false, Bool.false_eq_true, Bool.true_eq_false, ↓cal_w (d_conditionOfN C.1 C.2 c), d_conditionOfN C.1 C.2 c, ↓cal_w (t_hasPieceN C.1 c), t_hasPieceN C.1 c]
      exact Op.same C _
    · have h4 := (C.1.2.2.1.1 l k (by omega) hk).2
      cases c : hp (nw τ) l k
      · simp (disch := omega) only [↓bnd_i, ↓cal_s, ↓cal_n, ↓cal2_s, ↓cal2_n, cal_s, cal2_s, ↓reduceIte, fa_lit, m1_lit, m2_lit, m1_lt, m2_lt, m1_eq, m2_eq, m1_le, m2_le, le_m1, le_m2, lt_m1, lt_m2, m12, m21, m1_m1, n_lt, n_le, n_eq, lt_t, lt_f, le_t, le_f, eq_t, eq_f, n_cl, inb_ok, n_add, pk_mul, pk_sub, n_rem, n_div, n_dec, n_mx, n_mn, eq_m1, eq_m2, ss_same, ss_ne, ss_r, ss_l, sr_f, sr_l, sr_same, sr_ne, sw_f, sw_l, sw_at, sw_ne, pk_us, pk_un, bI_t, bI_f, not_true_eq_false, not_false_eq_true, eq_self, and_true, true_and, and_false, false_and, or_true, true_or, or_false, false_or, decide_true, decide_false, Bool.false_eq_true, Bool.true_eq_false, ↓cal_w (d_conditionOf C.1 C.2 hl hk), d_conditionOf C.1 C.2 hl hk, ↓cal_w (t_hasPiece C.1 hl (show k < 2 ^ 31 by omega)), t_hasPiece C.1 hl (show k < 2 ^ 31 by omega), ↓cal_w (t_keptOf C.1 (show l < 8 by omega) hk), t_keptOf C.1 (show l < 8 by omega) hk, c, Bool.and_false]
        exact Op.same C _
      · by_cases d : kp (nw τ) l k = 0
        · simp (disch := omega) only [↓bnd_i, ↓cal_s, ↓cal_n, ↓cal2_s, ↓cal2_n, cal_s, cal2_s, ↓reduceIte, fa_lit, m1_lit, m2_lit, m1_lt, m2_lt, m1_eq, m2_eq, m1_le, m2_le, le_m1, le_m2, lt_m1, lt_m2, m12, m21, m1_m1, n_lt, n_le, n_eq, lt_t, lt_f, le_t, le_f, eq_t, eq_f, n_cl, inb_ok, n_add, pk_mul, pk_sub, n_rem, n_div, n_dec, n_mx, n_mn, eq_m1, eq_m2, ss_same, ss_ne, ss_r, ss_l, sr_f, sr_l, sr_same, sr_ne, sw_f, sw_l, sw_at, sw_ne, pk_us, pk_un, bI_t, bI_f, not_true_eq_false, not_false_eq_true, eq_self, and_true, true_and, and_false, false_and, or_true, true_or, or_false, false_or, decide_true, decide_false, Bool.false_eq_true, Bool.true_eq_false, ↓cal_w (d_conditionOf C.1 C.2 hl hk), d_conditionOf C.1 C.2 hl hk, ↓cal_w (t_hasPiece C.1 hl (show k < 2 ^ 31 by omega)), t_hasPiece C.1 hl (show k < 2 ^ 31 by omega), ↓cal_w (t_keptOf C.1 (show l < 8 by omega) hk), t_keptOf C.1 (show l < 8 by omega) hk, c, d, Bool.and_true]
          exact Op.same C _
        · by_cases d2 : kp (nw τ) l k = v
          · simp (disch := omega) only [↓bnd_i, ↓cal_s, ↓cal_n, ↓cal2_s, ↓cal2_n, cal_s, cal2_s, ↓reduceIte, fa_lit, m1_lit, m2_lit, m1_lt, m2_lt, m1_eq, m2_eq, m1_le, m2_le, le_m1, le_m2, lt_m1, lt_m2, m12, m21, m1_m1, n_lt, n_le, n_eq, lt_t, lt_f, le_t, le_f, eq_t, eq_f, n_cl, inb_ok, n_add, pk_mul, pk_sub, n_rem, n_div, n_dec, n_mx, n_mn, eq_m1, eq_m2, ss_same, ss_ne, ss_r, ss_l, sr_f, sr_l, sr_same, sr_ne, sw_f, sw_l, sw_at, sw_ne, pk_us, pk_un, bI_t, bI_f, not_true_eq_false, not_false_eq_true, eq_self, and_true, true_and, and_false, false_and, or_true, true_or, or_false, false_or, decide_true, decide_false, Bool.false_eq_true, Bool.true_eq_false, ↓cal_w (d_conditionOf C.1 C.2 hl hk), d_conditionOf C.1 C.2 hl hk, ↓cal_w (t_hasPiece C.1 hl (show k < 2 ^ 31 by omega)), t_hasPiece C.1 hl (show k < 2 ^ 31 by omega), ↓cal_w (t_keptOf C.1 (show l < 8 by omega) hk), t_keptOf C.1 (show l < 8 by omega) hk, c, Bool.and_true]
            exact Op.same C _
          · simp (disch := omega) only [↓bnd_i, ↓cal_s, ↓cal_n, ↓cal2_s, ↓cal2_n, cal_s, cal2_s, ↓reduceIte, fa_lit, m1_lit, m2_lit, m1_lt, m2_lt, m1_eq, m2_eq, m1_le, m2_le, le_m1, le_m2, lt_m1, lt_m2, m12, m21, m1_m1, n_lt, n_le, n_eq, lt_t, lt_f, le_t, le_f, eq_t, eq_f, n_cl, inb_ok, n_add, pk_mul, pk_sub, n_rem, n_div, n_dec, n_mx, n_mn, eq_m1, eq_m2, ss_same, ss_ne, ss_r, ss_l, sr_f, sr_l, sr_same, sr_ne, sw_f, sw_l, sw_at, sw_ne, pk_us, pk_un, bI_t, bI_f, not_true_eq_false, not_false_eq_true, eq_self, and_true, true_and, and_false, false_and, or_true, true_or, or_false, false_or, decide_true, decide_false, Bool.false_eq_true, Bool.true_eq_false, ↓cal_w (d_conditionOf C.1 C.2 hl hk), d_conditionOf C.1 C.2 hl hk, ↓cal_w (t_hasPiece C.1 hl (show k < 2 ^ 31 by omega)), t_hasPiece C.1 hl (show k < 2 ^ 31 by omega), ↓cal_w (t_keptOf C.1 (show l < 8 by omega) hk), t_keptOf C.1 (show l < 8 by omega) hk, ↓cal_w (d_setCondition C.1 C.2 hl hk hv), d_setCondition C.1 C.2 hl hk hv, c, Bool.and_true]
            exact op_kp C hl hk hv _
  unfold f_X7_twice f_X8_twice
  by_cases c : z = 0
  · simp only [c, if_true]
    exact key 3 (by omega)
  · simp only [c, if_false]
    exact key 2 (by omega)
