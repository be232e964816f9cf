/-! PURE: needs, work, best -/
theorem ocx_le {N : Nat → Int32} (h : NN N) (x y z : Int32) : ocx N x y z ≤ 5 := by
  rcases ocx_c h x y z with q | ⟨c, l, p, rfl, rfl, rfl, g⟩
  · omega
  · rw [ocx_gd h g]
    rcases oc3_v (N := N) (c := c) (l := l) (p := p) with q | q | q <;> omega
/-- whether it needs pieces alone -/
def nd (o : Nat) : Bool := decide (o = 0 ∨ 4 ≤ o)
theorem gd_nd {N : Nat → Int32} (h : NN N) {c l p : Nat} (g : gd N c l p) : nd (ocx N (nI c) (nI l) (nI p)) = true := by
  rw [ocx_gd h g]
  unfold nd
  rcases oc3_v (N := N) (c := c) (l := l) (p := p) with q | q | q <;> rw [q] <;> decide
theorem nd_gd {N : Nat → Int32} (h : NN N) {x y z : Int32} (e : nd (ocx N x y z) = true) : ∃ c l p, x = nI c ∧ y = nI l ∧ z = nI p ∧ gd N c l p := by
  have e := of_decide_eq_true e
  rcases ocx_c h x y z with q | q
  · omega
  · exact q
theorem d_isOnTheWay {F : Nat} {t : St} {N : Nat → Int32} (h : NN N) (j : JJ t N) {x y : Int32} (h11 : t.1 11 = y) (A : AimP N x y t) (z : Int32) : f_X3_isOnTheWay F t z = some (bI (nd (ocx N x y z))) := by
  have o := d_outcomeAt (F := F) h j h11 A z
  have ol := ocx_le h x y z
  generalize ocx N x y z = k at o ol
  unfold f_X3_isOnTheWay nd
  by_cases k0 : k = 0
  · simp (disch := omega) only [↓bnd_i, ↓cal_s, ↓cal_n, ↓cal2_s, ↓cal2_n, cal_s, cal2_s, ↓reduceIte, fa_lit, m1_lit, m2_lit, m1_lt, m2_lt, m1_eq, m2_eq, m1_le, m2_le, le_m1, le_m2, lt_m1, lt_m2, m12, m21, m1_m1, n_lt, n_le, n_eq, lt_t, lt_f, le_t, le_f, eq_t, eq_f, n_cl, inb_ok, n_add, pk_mul, pk_sub, n_rem, n_div, n_dec, n_mx, n_mn, eq_m1, eq_m2, ss_same, ss_ne, ss_r, ss_l, sr_f, sr_l, sr_same, sr_ne, sw_f, sw_l, sw_at, sw_ne, pk_us, pk_un, bI_t, bI_f, not_true_eq_false, not_false_eq_true, eq_self, and_true, true_and, and_false, false_and, or_true, true_or, or_false, false_or, decide_true, decide_false, Bool.false_eq_true, Bool.true_eq_false, ↓cal_w (o), o]
  · by_cases k4 : k = 4
    · simp (disch := omega) only [↓bnd_i, ↓cal_s, ↓cal_n, ↓cal2_s, ↓cal2_n, cal_s, cal2_s, ↓reduceIte, fa_lit, m1_lit, m2_lit, m1_lt, m2_lt, m1_eq, m2_eq, m1_le, m2_le, le_m1, le_m2, lt_m1, lt_m2, m12, m21, m1_m1, n_lt, n_le, n_eq, lt_t, lt_f, le_t, le_f, eq_t, eq_f, n_cl, inb_ok, n_add, pk_mul, pk_sub, n_rem, n_div, n_dec, n_mx, n_mn, eq_m1, eq_m2, ss_same, ss_ne, ss_r, ss_l, sr_f, sr_l, sr_same, sr_ne, sw_f, sw_l, sw_at, sw_ne, pk_us, pk_un, bI_t, bI_f, not_true_eq_false, not_false_eq_true, eq_self, and_true, true_and, and_false, false_and, or_true, true_or, or_false, false_or, decide_true, decide_false, Bool.false_eq_true, Bool.true_eq_false, ↓cal_w (o), o]
    · by_cases k5 : k = 5
      · simp (disch := omega) only [↓bnd_i, ↓cal_s, ↓cal_n, ↓cal2_s, ↓cal2_n, cal_s, cal2_s, ↓reduceIte, fa_lit, m1_lit, m2_lit, m1_lt, m2_lt, m1_eq, m2_eq, m1_le, m2_le, le_m1, le_m2, lt_m1, lt_m2, m12, m21, m1_m1, n_lt, n_le, n_eq, lt_t, lt_f, le_t, le_f, eq_t, eq_f, n_cl, inb_ok, n_add, pk_mul, pk_sub, n_rem, n_div, n_dec, n_mx, n_mn, eq_m1, eq_m2, ss_same, ss_ne, ss_r, ss_l, sr_f, sr_l, sr_same, sr_ne, sw_f, sw_l, sw_at, sw_ne, pk_us, pk_un, bI_t, bI_f, not_true_eq_false, not_false_eq_true, eq_self, and_true, true_and, and_false, false_and, or_true, true_or, or_false, false_or, decide_true, decide_false, Bool.false_eq_true, Bool.true_eq_false, ↓cal_w (o), o]
      · have : ¬ (k = 0 ∨ 4 ≤ k) := by omega
        rw [decide_eq_false this]
        simp (disch := omega) only [↓bnd_i, ↓cal_s, ↓cal_n, ↓cal2_s, ↓cal2_n, cal_s, cal2_s, ↓reduceIte, fa_lit, m1_lit, m2_lit, m1_lt, m2_lt, m1_eq, m2_eq, m1_le, m2_le, le_m1, le_m2, lt_m1, lt_m2, m12, m21, m1_m1, n_lt, n_le, n_eq, lt_t, lt_f, le_t, le_f, eq_t, eq_f, n_cl, inb_ok, n_add, pk_mul, pk_sub, n_rem, n_div, n_dec, n_mx, n_mn, eq_m1, eq_m2, ss_same, ss_ne, ss_r, ss_l, sr_f, sr_l, sr_same, sr_ne, sw_f, sw_l, sw_at, sw_ne, pk_us, pk_un, bI_t, bI_f, not_true_eq_false, not_false_eq_true, eq_self, and_true, true_and, and_false, false_and, or_true, true_or, or_false, false_or, decide_true, decide_false, Bool.false_eq_true, Bool.true_eq_false, ↓cal_w (o), o]
theorem t_isNeeding {F : Nat} {t : St} {k : Nat} (hk : k ≤ 5) : f_X8_isNeeding F t (nI k) = some (bI (nd k)) := by
  unfold f_X8_isNeeding nd
  by_cases k0 : k = 0
  · simp (disch := omega) only [↓bnd_i, ↓cal_s, ↓cal_n, ↓cal2_s, ↓cal2_n, cal_s, cal2_s, ↓reduceIte, fa_lit, m1_lit, m2_lit, m1_lt, m2_lt, m1_eq, m2_eq, m1_le, m2_le, le_m1, le_m2, lt_m1, lt_m2, m12, m21, m1_m1, n_lt, n_le, n_eq, lt_t, lt_f, le_t, le_f, eq_t, eq_f, n_cl, inb_ok, n_add, pk_mul, pk_sub, n_rem, n_div, n_dec, n_mx, n_mn, eq_m1, eq_m2, ss_same, ss_ne, ss_r, ss_l, sr_f, sr_l, sr_same, sr_ne, sw_f, sw_l, sw_at, sw_ne, pk_us, pk_un, bI_t, bI_f, not_true_eq_false, not_false_eq_true, eq_self, and_true, true_and, and_false, false_and, or_true, true_or, or_false, false_or, decide_true, decide_false, Bool.false_eq_true, Bool.true_eq_false]
  · by_cases k3 : k ≤ 3
    · have : ¬ (k = 0 ∨ 4 ≤ k) := by omega
      rw [decide_eq_false this]
      simp (disch := omega) only [↓bnd_i, ↓cal_s, ↓cal_n, ↓cal2_s, ↓cal2_n, cal_s, cal2_s, ↓reduceIte, fa_lit, m1_lit, m2_lit, m1_lt, m2_lt, m1_eq, m2_eq, m1_le, m2_le, le_m1, le_m2, lt_m1, lt_m2, m12, m21, m1_m1, n_lt, n_le, n_eq, lt_t, lt_f, le_t, le_f, eq_t, eq_f, n_cl, inb_ok, n_add, pk_mul, pk_sub, n_rem, n_div, n_dec, n_mx, n_mn, eq_m1, eq_m2, ss_same, ss_ne, ss_r, ss_l, sr_f, sr_l, sr_same, sr_ne, sw_f, sw_l, sw_at, sw_ne, pk_us, pk_un, bI_t, bI_f, not_true_eq_false, not_false_eq_true, eq_self, and_true, true_and, and_false, false_and, or_true, true_or, or_false, false_or, decide_true, decide_false, Bool.false_eq_true, Bool.true_eq_false]
    · have : (k = 0 ∨ 4 ≤ k) := by omega
      rw [decide_eq_true this]
      simp (disch := omega) only [↓bnd_i, ↓cal_s, ↓cal_n, ↓cal2_s, ↓cal2_n, cal_s, cal2_s, ↓reduceIte, fa_lit, m1_lit, m2_lit, m1_lt, m2_lt, m1_eq, m2_eq, m1_le, m2_le, le_m1, le_m2, lt_m1, lt_m2, m12, m21, m1_m1, n_lt, n_le, n_eq, lt_t, lt_f, le_t, le_f, eq_t, eq_f, n_cl, inb_ok, n_add, pk_mul, pk_sub, n_rem, n_div, n_dec, n_mx, n_mn, eq_m1, eq_m2, ss_same, ss_ne, ss_r, ss_l, sr_f, sr_l, sr_same, sr_ne, sw_f, sw_l, sw_at, sw_ne, pk_us, pk_un, bI_t, bI_f, not_true_eq_false, not_false_eq_true, eq_self, and_true, true_and, and_false, false_and, or_true, true_or, or_false, false_or, decide_true, decide_false, Bool.false_eq_true, Bool.true_eq_false]
theorem aim_gd {N : Nat → Int32} (h : NN N) {t : St} {c l p : Nat} (g : gd N c l p) (A : AimP N (nI c) (nI l) t) : t.1 12 = nI 0 ∧ t.1 13 = fx m2 (fc N c l (tp N l)) ∧ t.1 14 = nI (ltF N c (pg N)) ∧ t.1 15 = nI (en N c l) ∧ (∀ i, i < pg N → t.2.1 25 i = nI (sc N c i)) ∧ ∀ B, fc N c l (tp N l) ≠ 0 → bd N l (fc N c l (tp N l)) (tp N l) = some B → t.1 16 = nI (hd N l B) ∧ t.1 17 = nI B ∧ t.1 18 = nI (hin N (hd N l B) B) := by
  obtain ⟨b1, b2, b3, b4, b5, b6, b7, b8⟩ := NNb h
  obtain ⟨g1, g2, g3, g4, g5, g6⟩ := g
  rcases A with ⟨A1, -⟩ | ⟨c', l', hc, hl, e1, e2, hf, A1, A2, A3⟩
  · rw [isN_t g2 (by omega), isN_t g1 (by omega), n_cl (by omega), g4] at A1
    rcases A1 with q | q | q <;> cases q
  · rw [n_eq (by omega) (by omega)] at e1 e2
    subst e1 e2
    rcases A3 with ⟨q, -⟩ | ⟨-, q1, q2, q3, q4⟩
    · rw [g5] at q; cases q
    · exact ⟨q1, q2, A1, q3, A2, q4⟩
def ned (N : Nat → Int32) (c l p : Nat) : Nat := if fc N c l p = 0 then 0 else p - fc N c l p + 1
theorem d_neededTo {F : Nat} {t : St} {N : Nat → Int32} (h : NN N) {c l p : Nat} (g : gd N c l p) (A : AimP N (nI c) (nI l) t) : f_X3_neededTo F t (nI p) = some (nI (ned N c l p)) := by
  obtain ⟨q1, q2, q3, q4, q5, q6⟩ := aim_gd h g A
  obtain ⟨g1, g2, g3, g4, g5, g6⟩ := g
  have ht := (h.2.1.1 l g2).2
  have e := fc_sub (N := N) (c := c) (l := l) g3
  have hfl := fc_le (N := N) (c := c) (l := l) (p := tp N l)
  unfold f_X3_neededTo ned
  by_cases f0 : fc N c l (tp N l) = 0
  · rw [fx_0 f0] at q2
    rw [if_pos (Or.inl f0)] at e
    rw [if_pos e]
    simp (disch := omega) only [↓bnd_i, ↓cal_s, ↓cal_n, ↓cal2_s, ↓cal2_n, cal_s, cal2_s, ↓reduceIte, fa_lit, m1_lit, m2_lit, m1_lt, m2_lt, m1_eq, m2_eq, m1_le, m2_le, le_m1, le_m2, lt_m1, lt_m2, m12, m21, m1_m1, n_lt, n_le, n_eq, lt_t, lt_f, le_t, le_f, eq_t, eq_f, n_cl, inb_ok, n_add, pk_mul, pk_sub, n_rem, n_div, n_dec, n_mx, n_mn, eq_m1, eq_m2, ss_same, ss_ne, ss_r, ss_l, sr_f, sr_l, sr_same, sr_ne, sw_f, sw_l, sw_at, sw_ne, pk_us, pk_un, bI_t, bI_f, not_true_eq_false, not_false_eq_true, eq_self, and_true, true_and, and_false, false_and, or_true, true_or, or_false, false_or, decide_true, decide_false, Bool.false_eq_true, Bool.true_eq_false, q2]
  · rw [fx_s f0] at q2
    by_cases pf : p < fc N c l (tp N l)
    · rw [if_pos (Or.inr pf)] at e
      rw [if_pos e]
      simp (disch := omega) only [↓bnd_i, ↓cal_s, ↓cal_n, ↓cal2_s, ↓cal2_n, cal_s, cal2_s, ↓reduceIte, fa_lit, m1_lit, m2_lit, m1_lt, m2_lt, m1_eq, m2_eq, m1_le, m2_le, le_m1, le_m2, lt_m1, lt_m2, m12, m21, m1_m1, n_lt, n_le, n_eq, lt_t, lt_f, le_t, le_f, eq_t, eq_f, n_cl, inb_ok, n_add, pk_mul, pk_sub, n_rem, n_div, n_dec, n_mx, n_mn, eq_m1, eq_m2, ss_same, ss_ne, ss_r, ss_l, sr_f, sr_l, sr_same, sr_ne, sw_f, sw_l, sw_at, sw_ne, pk_us, pk_un, bI_t, bI_f, not_true_eq_false, not_false_eq_true, eq_self, and_true, true_and, and_false, false_and, or_true, true_or, or_false, false_or, decide_true, decide_false, Bool.false_eq_true, Bool.true_eq_false, q2]
    · rw [if_neg (by omega)] at e
      rw [e, if_neg f0]
      simp (disch := omega) only [↓bnd_i, ↓cal_s, ↓cal_n, ↓cal2_s, ↓cal2_n, cal_s, cal2_s, ↓reduceIte, fa_lit, m1_lit, m2_lit, m1_lt, m2_lt, m1_eq, m2_eq, m1_le, m2_le, le_m1, le_m2, lt_m1, lt_m2, m12, m21, m1_m1, n_lt, n_le, n_eq, lt_t, lt_f, le_t, le_f, eq_t, eq_f, n_cl, inb_ok, n_add, pk_mul, pk_sub, n_rem, n_div, n_dec, n_mx, n_mn, eq_m1, eq_m2, ss_same, ss_ne, ss_r, ss_l, sr_f, sr_l, sr_same, sr_ne, sw_f, sw_l, sw_at, sw_ne, pk_us, pk_un, bI_t, bI_f, not_true_eq_false, not_false_eq_true, eq_self, and_true, true_and, and_false, false_and, or_true, true_or, or_false, false_or, decide_true, decide_false, Bool.false_eq_true, Bool.true_eq_false, q2]
/-- aim and comesOut, side by side -/
theorem both {F : Nat} (hF : 300 < F) {σ τ : St} (C : Core σ τ) (x y z : Int32) : ∃ t u, f_X3_aim F σ x y = some t ∧ f_X8_comesOut_ F τ x y z = some (nI (ocx (nw τ) x y z), u) ∧ JJ t (nw τ) ∧ Fr σ t ∧ t.1 11 = y ∧ AimP (nw τ) x y t ∧ FrM τ u ∧ nw u = nw τ ∧ ∀ c l p, x = nI c → y = nI l → z = nI p → gd (nw τ) c l p → u.1 15 = fx m1 (fc (nw τ) c l p) ∧ ∀ B, fc (nw τ) c l p ≠ 0 → bd (nw τ) l (fc (nw τ) c l p) p = some B → u.1 16 = nI (hd (nw τ) l B) ∧ u.1 17 = nI B := by
  obtain ⟨t, a1, a2, a3, a4, a5⟩ := d_aim (F := F) hF C.1 C.2 x y
  obtain ⟨u, c1, c2, c3, c4⟩ := t_comesOut (F := F) hF C.1 x y z
  exact ⟨t, u, a1, c1, a2, a3, a4, a5, c2, c3, c4⟩
theorem op_needs {F : Nat} (hF : 300 < F) {σ τ : St} (C : Core σ τ) (x y z w : Int32) : Op σ τ (f_X7_needs F σ x y z w) (f_X8_needs F τ x y z w) := by
  obtain ⟨b1, b2, b3, b4, b5, b6, b7, b8⟩ := NNb C.1
  obtain ⟨t, u, a1, c1, a2, a3, a4, a5, c2, c3, c4⟩ := both (F := F) hF C x y z
  have hin' := in_isN (F := F) (τ := τ) (x := w) (n := 4) (by omega) (by omega)
  rw [pk_sub (by omega)] at hin'
  have ol := ocx_le C.1 x y z
  have w1 := d_isOnTheWay (F := F) C.1 a2 a4 a5 z
  have w2 := t_isNeeding (F := F) (t := u) ol
  unfold f_X7_needs f_X8_needs
  cases d : isN w 4
  · rw [d] at hin'
    rcases n_ex w with hy | ⟨i, hi, rfl⟩
    · simp (disch := omega) only [↓bnd_i, ↓cal_s, ↓cal_n, ↓cal2_s, ↓cal2_n, cal_s, cal2_s, ↓reduceIte, fa_lit, m1_lit, m2_lit, m1_lt, m2_lt, m1_eq, m2_eq, m1_le, m2_le, le_m1, le_m2, lt_m1, lt_m2, m12, m21, m1_m1, n_lt, n_le, n_eq, lt_t, lt_f, le_t, le_f, eq_t, eq_f, n_cl, inb_ok, n_add, pk_mul, pk_sub, n_rem, n_div, n_dec, n_mx, n_mn, eq_m1, eq_m2, ss_same, ss_ne, ss_r, ss_l, sr_f, sr_l, sr_same, sr_ne, sw_f, sw_l, sw_at, sw_ne, pk_us, pk_un, bI_t, bI_f, not_true_eq_false, not_false_eq_true, eq_self, and_true, true_and, and_false, false_and, or_true, true_or, or_false, false_or, decide_true, decide_false, Bool.false_eq_true, Bool.true_eq_false, ↓cal_w (a1), a1, ↓cal_w (hin'), hin', eq_true (show w < nI 0 from hy)]
      exact opA C a2 a3 (FrM.refl τ) rfl _
    · rw [isN_n hi] at d
      have d' := of_decide_eq_false d
      simp (disch := omega) only [↓bnd_i, ↓cal_s, ↓cal_n, ↓cal2_s, ↓cal2_n, cal_s, cal2_s, ↓reduceIte, fa_lit, m1_lit, m2_lit, m1_lt, m2_lt, m1_eq, m2_eq, m1_le, m2_le, le_m1, le_m2, lt_m1, lt_m2, m12, m21, m1_m1, n_lt, n_le, n_eq, lt_t, lt_f, le_t, le_f, eq_t, eq_f, n_cl, inb_ok, n_add, pk_mul, pk_sub, n_rem, n_div, n_dec, n_mx, n_mn, eq_m1, eq_m2, ss_same, ss_ne, ss_r, ss_l, sr_f, sr_l, sr_same, sr_ne, sw_f, sw_l, sw_at, sw_ne, pk_us, pk_un, bI_t, bI_f, not_true_eq_false, not_false_eq_true, eq_self, and_true, true_and, and_false, false_and, or_true, true_or, or_false, false_or, decide_true, decide_false, Bool.false_eq_true, Bool.true_eq_false, ↓cal_w (a1), a1, ↓cal_w (hin'), hin']
      exact opA C a2 a3 (FrM.refl τ) rfl _
  · rw [d] at hin'
    obtain ⟨i, hi, rfl⟩ := isN_e d (by omega)
    cases e : nd (ocx (nw τ) x y z)
    · rw [e] at w1 w2
      simp (disch := omega) only [↓bnd_i, ↓cal_s, ↓cal_n, ↓cal2_s, ↓cal2_n, cal_s, cal2_s, ↓reduceIte, fa_lit, m1_lit, m2_lit, m1_lt, m2_lt, m1_eq, m2_eq, m1_le, m2_le, le_m1, le_m2, lt_m1, lt_m2, m12, m21, m1_m1, n_lt, n_le, n_eq, lt_t, lt_f, le_t, le_f, eq_t, eq_f, n_cl, inb_ok, n_add, pk_mul, pk_sub, n_rem, n_div, n_dec, n_mx, n_mn, eq_m1, eq_m2, ss_same, ss_ne, ss_r, ss_l, sr_f, sr_l, sr_same, sr_ne, sw_f, sw_l, sw_at, sw_ne, pk_us, pk_un, bI_t, bI_f, not_true_eq_false, not_false_eq_true, eq_self, and_true, true_and, and_false, false_and, or_true, true_or, or_false, false_or, decide_true, decide_false, Bool.false_eq_true, Bool.true_eq_false, ↓cal_w (a1), a1, ↓cal_w (hin'), hin', ↓cal_w (w1), w1, ↓cal_w (w2), w2, ↓cal2_w (c1), c1]
      exact opA C a2 a3 c2 c3 _
    · rw [e] at w1 w2
      obtain ⟨c, l, p, rfl, rfl, rfl, g⟩ := nd_gd C.1 e
      have w3 := d_neededTo (F := F) C.1 g a5
      obtain ⟨q1, q2, q3, q4, q5, q6⟩ := aim_gd C.1 g a5
      obtain ⟨r1, r2⟩ := c4 c l p rfl rfl rfl g
      have ht := (C.1.2.1.1 l g.2.1).2
      have hp := g.2.2.1
      have e := fc_sub (N := nw τ) (c := c) (l := l) hp
      have hfp := fc_le (N := nw τ) (c := c) (l := l) (p := p)
      unfold ned at w3
      by_cases f0 : fc (nw τ) c l p = 0
      · rw [if_pos f0] at w3
        rw [fx_0 f0] at r1
        by_cases i0 : i = 0
        · simp (disch := omega) only [↓bnd_i, ↓cal_s, ↓cal_n, ↓cal2_s, ↓cal2_n, cal_s, cal2_s, ↓reduceIte, fa_lit, m1_lit, m2_lit, m1_lt, m2_lt, m1_eq, m2_eq, m1_le, m2_le, le_m1, le_m2, lt_m1, lt_m2, m12, m21, m1_m1, n_lt, n_le, n_eq, lt_t, lt_f, le_t, le_f, eq_t, eq_f, n_cl, inb_ok, n_add, pk_mul, pk_sub, n_rem, n_div, n_dec, n_mx, n_mn, eq_m1, eq_m2, ss_same, ss_ne, ss_r, ss_l, sr_f, sr_l, sr_same, sr_ne, sw_f, sw_l, sw_at, sw_ne, pk_us, pk_un, bI_t, bI_f, not_true_eq_false, not_false_eq_true, eq_self, and_true, true_and, and_false, false_and, or_true, true_or, or_false, false_or, decide_true, decide_false, Bool.false_eq_true, Bool.true_eq_false, ↓cal_w (a1), a1, ↓cal_w (hin'), hin', ↓cal_w (w1), w1, ↓cal_w (w2), w2, ↓cal_w (w3), w3, ↓cal2_w (c1), c1, r1]
          exact opA C a2 a3 c2 c3 _
        · simp (disch := omega) only [↓bnd_i, ↓cal_s, ↓cal_n, ↓cal2_s, ↓cal2_n, cal_s, cal2_s, ↓reduceIte, fa_lit, m1_lit, m2_lit, m1_lt, m2_lt, m1_eq, m2_eq, m1_le, m2_le, le_m1, le_m2, lt_m1, lt_m2, m12, m21, m1_m1, n_lt, n_le, n_eq, lt_t, lt_f, le_t, le_f, eq_t, eq_f, n_cl, inb_ok, n_add, pk_mul, pk_sub, n_rem, n_div, n_dec, n_mx, n_mn, eq_m1, eq_m2, ss_same, ss_ne, ss_r, ss_l, sr_f, sr_l, sr_same, sr_ne, sw_f, sw_l, sw_at, sw_ne, pk_us, pk_un, bI_t, bI_f, not_true_eq_false, not_false_eq_true, eq_self, and_true, true_and, and_false, false_and, or_true, true_or, or_false, false_or, decide_true, decide_false, Bool.false_eq_true, Bool.true_eq_false, ↓cal_w (a1), a1, ↓cal_w (hin'), hin', ↓cal_w (w1), w1, ↓cal_w (w2), w2, ↓cal_w (w3), w3, ↓cal2_w (c1), c1, r1]
          exact opA C a2 a3 c2 c3 _
      · rw [if_neg f0] at w3
        rw [fx_s f0] at r1
        have ft0 : ¬ (fc (nw τ) c l (tp (nw τ) l) = 0 ∨ p < fc (nw τ) c l (tp (nw τ) l)) := fun q => by rw [if_pos q] at e; exact f0 e
        rw [if_neg ft0] at e
        rw [fx_s (by omega), ← e] at q2
        have hNu : NN (nw u) := by rw [c3]; exact C.1
        have u1 := t_pieceOf (F := F) hNu.1 (show 1 ≤ fc (nw τ) c l p by omega) (by omega)
        have u2 := t_pieceOf (F := F) hNu.1 (show 1 ≤ p by omega) (by omega)
        rw [c3] at u1 u2
        have v1 := d_pieceHolding (F := F) C.1 a2 (show 1 ≤ fc (nw τ) c l p by omega) (by omega)
        have v2 := d_pieceHolding (F := F) C.1 a2 (show 1 ≤ p by omega) (by omega)
        by_cases i0 : i = 0
        · simp (disch := omega) only [↓bnd_i, ↓cal_s, ↓cal_n, ↓cal2_s, ↓cal2_n, cal_s, cal2_s, ↓reduceIte, fa_lit, m1_lit, m2_lit, m1_lt, m2_lt, m1_eq, m2_eq, m1_le, m2_le, le_m1, le_m2, lt_m1, lt_m2, m12, m21, m1_m1, n_lt, n_le, n_eq, lt_t, lt_f, le_t, le_f, eq_t, eq_f, n_cl, inb_ok, n_add, pk_mul, pk_sub, n_rem, n_div, n_dec, n_mx, n_mn, eq_m1, eq_m2, ss_same, ss_ne, ss_r, ss_l, sr_f, sr_l, sr_same, sr_ne, sw_f, sw_l, sw_at, sw_ne, pk_us, pk_un, bI_t, bI_f, not_true_eq_false, not_false_eq_true, eq_self, and_true, true_and, and_false, false_and, or_true, true_or, or_false, false_or, decide_true, decide_false, Bool.false_eq_true, Bool.true_eq_false, ↓cal_w (a1), a1, ↓cal_w (hin'), hin', ↓cal_w (w1), w1, ↓cal_w (w2), w2, ↓cal_w (w3), w3, ↓cal2_w (c1), c1, r1]
          exact opA C a2 a3 c2 c3 _
        · by_cases i1 : i = 1
          · simp (disch := omega) only [↓bnd_i, ↓cal_s, ↓cal_n, ↓cal2_s, ↓cal2_n, cal_s, cal2_s, ↓reduceIte, fa_lit, m1_lit, m2_lit, m1_lt, m2_lt, m1_eq, m2_eq, m1_le, m2_le, le_m1, le_m2, lt_m1, lt_m2, m12, m21, m1_m1, n_lt, n_le, n_eq, lt_t, lt_f, le_t, le_f, eq_t, eq_f, n_cl, inb_ok, n_add, pk_mul, pk_sub, n_rem, n_div, n_dec, n_mx, n_mn, eq_m1, eq_m2, ss_same, ss_ne, ss_r, ss_l, sr_f, sr_l, sr_same, sr_ne, sw_f, sw_l, sw_at, sw_ne, pk_us, pk_un, bI_t, bI_f, not_true_eq_false, not_false_eq_true, eq_self, and_true, true_and, and_false, false_and, or_true, true_or, or_false, false_or, decide_true, decide_false, Bool.false_eq_true, Bool.true_eq_false, ↓cal_w (a1), a1, ↓cal_w (hin'), hin', ↓cal_w (w1), w1, ↓cal_w (w2), w2, ↓cal_w (w3), w3, ↓cal2_w (c1), c1, r1, q2]
            exact opA C a2 a3 c2 c3 _
          · by_cases i2 : i = 2
            · simp (disch := omega) only [↓bnd_i, ↓cal_s, ↓cal_n, ↓cal2_s, ↓cal2_n, cal_s, cal2_s, ↓reduceIte, fa_lit, m1_lit, m2_lit, m1_lt, m2_lt, m1_eq, m2_eq, m1_le, m2_le, le_m1, le_m2, lt_m1, lt_m2, m12, m21, m1_m1, n_lt, n_le, n_eq, lt_t, lt_f, le_t, le_f, eq_t, eq_f, n_cl, inb_ok, n_add, pk_mul, pk_sub, n_rem, n_div, n_dec, n_mx, n_mn, eq_m1, eq_m2, ss_same, ss_ne, ss_r, ss_l, sr_f, sr_l, sr_same, sr_ne, sw_f, sw_l, sw_at, sw_ne, pk_us, pk_un, bI_t, bI_f, not_true_eq_false, not_false_eq_true, eq_self, and_true, true_and, and_false, false_and, or_true, true_or, or_false, false_or, decide_true, decide_false, Bool.false_eq_true, Bool.true_eq_false, ↓cal_w (a1), a1, ↓cal_w (hin'), hin', ↓cal_w (w1), w1, ↓cal_w (w2), w2, ↓cal_w (w3), w3, ↓cal_w (u1), u1, ↓cal_w (v1), v1, ↓cal2_w (c1), c1, r1, q2]
              exact opA C a2 a3 c2 c3 _
            · simp (disch := omega) only [↓bnd_i, ↓cal_s, ↓cal_n, ↓cal2_s, ↓cal2_n, cal_s, cal2_s, ↓reduceIte, fa_lit, m1_lit, m2_lit, m1_lt, m2_lt, m1_eq, m2_eq, m1_le, m2_le, le_m1, le_m2, lt_m1, lt_m2, m12, m21, m1_m1, n_lt, n_le, n_eq, lt_t, lt_f, le_t, le_f, eq_t, eq_f, n_cl, inb_ok, n_add, pk_mul, pk_sub, n_rem, n_div, n_dec, n_mx, n_mn, eq_m1, eq_m2, ss_same, ss_ne, ss_r, ss_l, sr_f, sr_l, sr_same, sr_ne, sw_f, sw_l, sw_at, sw_ne, pk_us, pk_un, bI_t, bI_f, not_true_eq_false, not_false_eq_true, eq_self, and_true, true_and, and_false, false_and, or_true, true_or, or_false, false_or, decide_true, decide_false, Bool.false_eq_true, Bool.true_eq_false, ↓cal_w (a1), a1, ↓cal_w (hin'), hin', ↓cal_w (w1), w1, ↓cal_w (w2), w2, ↓cal_w (w3), w3, ↓cal_w (u2), u2, ↓cal_w (v2), v2, ↓cal2_w (c1), c1, r1, q2]
              exact opA C a2 a3 c2 c3 _
/-- how many records change a page behind where it is -/
def cb (N : Nat → Int32) (c l : Nat) : Nat → Nat
  | 0 => 0
  | p + 1 => cb N c l p + if bh N c l (p + 1) then 1 else 0
theorem cb_le {N : Nat → Int32} {c l : Nat} : ∀ p, cb N c l p ≤ p
  | 0 => Nat.le_refl 0
  | p + 1 => by
    have := cb_le (N := N) (c := c) (l := l) p
    rw [cb]
    split <;> omega
theorem cb_0 {N : Nat → Int32} {c l : Nat} : ∀ p, (∀ j, 1 ≤ j → j ≤ p → bh N c l j = false) → cb N c l p = 0
  | 0, _ => rfl
  | p + 1, h => by
    rw [cb, cb_0 p (fun j h1 h2 => h j h1 (by omega)), h (p + 1) (by omega) (by omega)]
    simp
theorem mx_m2 {k : Nat} (h : k < 2 ^ 31) : mx m2 (nI k) = nI k := by
  show (if m2 < nI k then nI k else m2) = nI k
  rw [if_pos (neg_lt m2_neg h)]
theorem d_changesTo {F : Nat} (hF : 300 < F) {t : St} {N : Nat → Int32} (h : NN N) (j : JJ t N) {c l p : Nat} (g : gd N c l p) (h11 : t.1 11 = nI l) (A : AimP N (nI c) (nI l) t) : f_X3_changesTo F t (nI p) = some (nI (cb N c l p)) := by
  obtain ⟨q1, q2, q3, q4, q5, q6⟩ := aim_gd h g A
  obtain ⟨g1, g2, g3, g4, g5, g6⟩ := g
  have ht := (h.2.1.1 l g2).2
  have hfl := fc_le (N := N) (c := c) (l := l) (p := tp N l)
  have key : ∀ n i, i ≤ p → p - i < n → f_X3_changesTo_28 F n t (nI p) (nI (cb N c l i)) (nI (i + 1)) = some (nI (cb N c l p)) := by
    intro n
    induction n with
    | zero => intro i _ h; omega
    | succ n ih =>
      intro i hi hn
      have hcb := cb_le (N := N) (c := c) (l := l) i
      rw [f_X3_changesTo_28]
      by_cases e : i = p
      · rw [e]
        simp (disch := omega) only [↓bnd_i, ↓cal_s, ↓cal_n, ↓cal2_s, ↓cal2_n, cal_s, cal2_s, ↓reduceIte, fa_lit, m1_lit, m2_lit, m1_lt, m2_lt, m1_eq, m2_eq, m1_le, m2_le, le_m1, le_m2, lt_m1, lt_m2, m12, m21, m1_m1, n_lt, n_le, n_eq, lt_t, lt_f, le_t, le_f, eq_t, eq_f, n_cl, inb_ok, n_add, pk_mul, pk_sub, n_rem, n_div, n_dec, n_mx, n_mn, eq_m1, eq_m2, ss_same, ss_ne, ss_r, ss_l, sr_f, sr_l, sr_same, sr_ne, sw_f, sw_l, sw_at, sw_ne, pk_us, pk_un, bI_t, bI_f, not_true_eq_false, not_false_eq_true, eq_self, and_true, true_and, and_false, false_and, or_true, true_or, or_false, false_or, decide_true, decide_false, Bool.false_eq_true, Bool.true_eq_false]
      · have ih' := ih (i + 1) (by omega) (by omega)
        have w := d_isBehind (F := F) h g1 g2 (show 1 ≤ i + 1 by omega) (show i + 1 ≤ tp N l by omega) q5
        rw [cb] at ih'
        cases d : bh N c l (i + 1)
        · rw [d] at w ih'
          simp (disch := omega) only [↓bnd_i, ↓cal_s, ↓cal_n, ↓cal2_s, ↓cal2_n, cal_s, cal2_s, ↓reduceIte, fa_lit, m1_lit, m2_lit, m1_lt, m2_lt, m1_eq, m2_eq, m1_le, m2_le, le_m1, le_m2, lt_m1, lt_m2, m12, m21, m1_m1, n_lt, n_le, n_eq, lt_t, lt_f, le_t, le_f, eq_t, eq_f, n_cl, inb_ok, n_add, pk_mul, pk_sub, n_rem, n_div, n_dec, n_mx, n_mn, eq_m1, eq_m2, ss_same, ss_ne, ss_r, ss_l, sr_f, sr_l, sr_same, sr_ne, sw_f, sw_l, sw_at, sw_ne, pk_us, pk_un, bI_t, bI_f, not_true_eq_false, not_false_eq_true, eq_self, and_true, true_and, and_false, false_and, or_true, true_or, or_false, false_or, decide_true, decide_false, Bool.false_eq_true, Bool.true_eq_false, ↓cal_w (d_changedAt (show 8 < F by omega) h j g2 (show 1 ≤ i + 1 by omega) (show i + 1 ≤ tp N l by omega)), d_changedAt (show 8 < F by omega) h j g2 (show 1 ≤ i + 1 by omega) (show i + 1 ≤ tp N l by omega), ↓cal_w (w), w, h11, f_X3_changesTo_62, Nat.add_zero]
          simp only [Bool.false_eq_true, if_false, Nat.add_zero] at ih'
          exact ih'
        · rw [d] at w ih'
          simp (disch := omega) only [↓bnd_i, ↓cal_s, ↓cal_n, ↓cal2_s, ↓cal2_n, cal_s, cal2_s, ↓reduceIte, fa_lit, m1_lit, m2_lit, m1_lt, m2_lt, m1_eq, m2_eq, m1_le, m2_le, le_m1, le_m2, lt_m1, lt_m2, m12, m21, m1_m1, n_lt, n_le, n_eq, lt_t, lt_f, le_t, le_f, eq_t, eq_f, n_cl, inb_ok, n_add, pk_mul, pk_sub, n_rem, n_div, n_dec, n_mx, n_mn, eq_m1, eq_m2, ss_same, ss_ne, ss_r, ss_l, sr_f, sr_l, sr_same, sr_ne, sw_f, sw_l, sw_at, sw_ne, pk_us, pk_un, bI_t, bI_f, not_true_eq_false, not_false_eq_true, eq_self, and_true, true_and, and_false, false_and, or_true, true_or, or_false, false_or, decide_true, decide_false, Bool.false_eq_true, Bool.true_eq_false, ↓cal_w (d_changedAt (show 8 < F by omega) h j g2 (show 1 ≤ i + 1 by omega) (show i + 1 ≤ tp N l by omega)), d_changedAt (show 8 < F by omega) h j g2 (show 1 ≤ i + 1 by omega) (show i + 1 ≤ tp N l by omega), ↓cal_w (w), w, h11, f_X3_changesTo_62]
          simp only [if_true] at ih'
          exact ih'
  have start : ∀ s, 1 ≤ s → s ≤ 241 → (∀ j, 1 ≤ j → j < s → bh N c l j = false) → f_X3_changesTo_28 F F t (nI p) (nI 0) (nI s) = some (nI (cb N c l p)) := by
    intro s hs hs2 hb
    by_cases e : s - 1 ≤ p
    · have k := key F (s - 1) e (by omega)
      rw [cb_0 (s - 1) (fun j h1 h2 => hb j h1 (by omega)), show s - 1 + 1 = s by omega] at k
      exact k
    · obtain ⟨n, rfl⟩ : ∃ k, F = k + 1 := ⟨F - 1, by omega⟩
      rw [f_X3_changesTo_28, cb_0 p (fun j h1 h2 => hb j h1 (by omega))]
      simp (disch := omega) only [↓bnd_i, ↓cal_s, ↓cal_n, ↓cal2_s, ↓cal2_n, cal_s, cal2_s, ↓reduceIte, fa_lit, m1_lit, m2_lit, m1_lt, m2_lt, m1_eq, m2_eq, m1_le, m2_le, le_m1, le_m2, lt_m1, lt_m2, m12, m21, m1_m1, n_lt, n_le, n_eq, lt_t, lt_f, le_t, le_f, eq_t, eq_f, n_cl, inb_ok, n_add, pk_mul, pk_sub, n_rem, n_div, n_dec, n_mx, n_mn, eq_m1, eq_m2, ss_same, ss_ne, ss_r, ss_l, sr_f, sr_l, sr_same, sr_ne, sw_f, sw_l, sw_at, sw_ne, pk_us, pk_un, bI_t, bI_f, not_true_eq_false, not_false_eq_true, eq_self, and_true, true_and, and_false, false_and, or_true, true_or, or_false, false_or, decide_true, decide_false, Bool.false_eq_true, Bool.true_eq_false]
  unfold f_X3_changesTo
  rcases fc_P (N := N) (c := c) (l := l) (tp N l) with ⟨f0, f1⟩ | ⟨f1, f2, f3, f4⟩
  · rw [fx_0 f0] at q2
    have k := start 1 (by omega) (by omega) (fun j h1 h2 => by omega)
    simp (disch := omega) only [↓bnd_i, ↓cal_s, ↓cal_n, ↓cal2_s, ↓cal2_n, cal_s, cal2_s, ↓reduceIte, fa_lit, m1_lit, m2_lit, m1_lt, m2_lt, m1_eq, m2_eq, m1_le, m2_le, le_m1, le_m2, lt_m1, lt_m2, m12, m21, m1_m1, n_lt, n_le, n_eq, lt_t, lt_f, le_t, le_f, eq_t, eq_f, n_cl, inb_ok, n_add, pk_mul, pk_sub, n_rem, n_div, n_dec, n_mx, n_mn, eq_m1, eq_m2, ss_same, ss_ne, ss_r, ss_l, sr_f, sr_l, sr_same, sr_ne, sw_f, sw_l, sw_at, sw_ne, pk_us, pk_un, bI_t, bI_f, not_true_eq_false, not_false_eq_true, eq_self, and_true, true_and, and_false, false_and, or_true, true_or, or_false, false_or, decide_true, decide_false, Bool.false_eq_true, Bool.true_eq_false, ↓cal_w (d_tipOf h j g2), d_tipOf h j g2, h11, q2, mx_m2, Nat.min_eq_left g3]
    exact k
  · rw [fx_s (by omega)] at q2
    have k := start (fc N c l (tp N l)) f1 (by omega) f4
    simp (disch := omega) only [↓bnd_i, ↓cal_s, ↓cal_n, ↓cal2_s, ↓cal2_n, cal_s, cal2_s, ↓reduceIte, fa_lit, m1_lit, m2_lit, m1_lt, m2_lt, m1_eq, m2_eq, m1_le, m2_le, le_m1, le_m2, lt_m1, lt_m2, m12, m21, m1_m1, n_lt, n_le, n_eq, lt_t, lt_f, le_t, le_f, eq_t, eq_f, n_cl, inb_ok, n_add, pk_mul, pk_sub, n_rem, n_div, n_dec, n_mx, n_mn, eq_m1, eq_m2, ss_same, ss_ne, ss_r, ss_l, sr_f, sr_l, sr_same, sr_ne, sw_f, sw_l, sw_at, sw_ne, pk_us, pk_un, bI_t, bI_f, not_true_eq_false, not_false_eq_true, eq_self, and_true, true_and, and_false, false_and, or_true, true_or, or_false, false_or, decide_true, decide_false, Bool.false_eq_true, Bool.true_eq_false, ↓cal_w (d_tipOf h j g2), d_tipOf h j g2, h11, q2, Nat.min_eq_left g3, Nat.max_eq_left f1]
    exact k
theorem op_work {F : Nat} (hF : 300 < F) {σ τ : St} (C : Core σ τ) (x y z : Int32) : Op σ τ (f_X7_work F σ x y z) (f_X8_work F τ x y z) := by
  obtain ⟨b1, b2, b3, b4, b5, b6, b7, b8⟩ := NNb C.1
  obtain ⟨t, u, a1, c1, a2, a3, a4, a5, c2, c3, c4⟩ := both (F := F) hF C x y z
  have ol := ocx_le C.1 x y z
  have w1 := d_isOnTheWay (F := F) C.1 a2 a4 a5 z
  have w2 := t_isNeeding (F := F) (t := u) ol
  unfold f_X7_work f_X8_work
  cases e : nd (ocx (nw τ) x y z)
  · rw [e] at w1 w2
    simp (disch := omega) only [↓bnd_i, ↓cal_s, ↓cal_n, ↓cal2_s, ↓cal2_n, cal_s, cal2_s, ↓reduceIte, fa_lit, m1_lit, m2_lit, m1_lt, m2_lt, m1_eq, m2_eq, m1_le, m2_le, le_m1, le_m2, lt_m1, lt_m2, m12, m21, m1_m1, n_lt, n_le, n_eq, lt_t, lt_f, le_t, le_f, eq_t, eq_f, n_cl, inb_ok, n_add, pk_mul, pk_sub, n_rem, n_div, n_dec, n_mx, n_mn, eq_m1, eq_m2, ss_same, ss_ne, ss_r, ss_l, sr_f, sr_l, sr_same, sr_ne, sw_f, sw_l, sw_at, sw_ne, pk_us, pk_un, bI_t, bI_f, not_true_eq_false, not_false_eq_true, eq_self, and_true, true_and, and_false, false_and, or_true, true_or, or_false, false_or, decide_true, decide_false, Bool.false_eq_true, Bool.true_eq_false, ↓cal_w (a1), a1, ↓cal_w (w1), w1, ↓cal_w (w2), w2, ↓cal2_w (c1), c1]
    exact opA C a2 a3 c2 c3 _
  · rw [e] at w1 w2
    obtain ⟨c, l, p, rfl, rfl, rfl, g⟩ := nd_gd C.1 e
    have w3 := d_changesTo (F := F) hF C.1 a2 g a4 a5
    obtain ⟨g1, g2, g3, g4, g5, g6⟩ := g
    have ht := (C.1.2.1.1 l g2).2
    have hNu : NN (nw u) := by rw [c3]; exact C.1
    have key : ∀ n i, i ≤ p → p - i < n → f_X8_work_21 F n u (nI c) (nI l) (nI p) (nI (cb (nw τ) c l i)) (nI (i + 1)) = some (nI (cb (nw τ) c l p), u) := by
      intro n
      induction n with
      | zero => intro i _ h; omega
      | succ n ih =>
        intro i hi hn
        have hcb := cb_le (N := nw τ) (c := c) (l := l) i
        rw [f_X8_work_21]
        by_cases e : i = p
        · rw [e]
          simp (disch := omega) only [↓bnd_i, ↓cal_s, ↓cal_n, ↓cal2_s, ↓cal2_n, cal_s, cal2_s, ↓reduceIte, fa_lit, m1_lit, m2_lit, m1_lt, m2_lt, m1_eq, m2_eq, m1_le, m2_le, le_m1, le_m2, lt_m1, lt_m2, m12, m21, m1_m1, n_lt, n_le, n_eq, lt_t, lt_f, le_t, le_f, eq_t, eq_f, n_cl, inb_ok, n_add, pk_mul, pk_sub, n_rem, n_div, n_dec, n_mx, n_mn, eq_m1, eq_m2, ss_same, ss_ne, ss_r, ss_l, sr_f, sr_l, sr_same, sr_ne, sw_f, sw_l, sw_at, sw_ne, pk_us, pk_un, bI_t, bI_f, not_true_eq_false, not_false_eq_true, eq_self, and_true, true_and, and_false, false_and, or_true, true_or, or_false, false_or, decide_true, decide_false, Bool.false_eq_true, Bool.true_eq_false]
        · have ih' := ih (i + 1) (by omega) (by omega)
          rw [cb] at ih'
          have tcb := t_changedBy (F := F) hNu.1 hNu.2.1 (show 8 < F by omega) (l := l) (p := i + 1) (by rw [c3]; exact g2) (by omega)
          rw [c3] at tcb
          rcases chg_in C.1 g2 (show 1 ≤ i + 1 by omega) (show i + 1 ≤ tp (nw τ) l by omega) with e1 | ⟨b, hb, e1⟩
          · rw [e1] at tcb
            rw [bh_n e1] at ih'
            simp only [Bool.false_eq_true, if_false, Nat.add_zero] at ih'
            simp (disch := omega) only [↓bnd_i, ↓cal_s, ↓cal_n, ↓cal2_s, ↓cal2_n, cal_s, cal2_s, ↓reduceIte, fa_lit, m1_lit, m2_lit, m1_lt, m2_lt, m1_eq, m2_eq, m1_le, m2_le, le_m1, le_m2, lt_m1, lt_m2, m12, m21, m1_m1, n_lt, n_le, n_eq, lt_t, lt_f, le_t, le_f, eq_t, eq_f, n_cl, inb_ok, n_add, pk_mul, pk_sub, n_rem, n_div, n_dec, n_mx, n_mn, eq_m1, eq_m2, ss_same, ss_ne, ss_r, ss_l, sr_f, sr_l, sr_same, sr_ne, sw_f, sw_l, sw_at, sw_ne, pk_us, pk_un, bI_t, bI_f, not_true_eq_false, not_false_eq_true, eq_self, and_true, true_and, and_false, false_and, or_true, true_or, or_false, false_or, decide_true, decide_false, Bool.false_eq_true, Bool.true_eq_false, ↓cal_w (tcb), tcb, f_X8_work_63]
            exact ih'
          · rw [e1] at tcb
            rw [bh_g (by omega) e1] at ih'
            obtain ⟨a, d⟩ := ft_some g4 hb
            obtain ⟨p1, p2, p3, p4, p5, p6, p7, p8⟩ := tc_in C.1 g1 (show b < 8 by omega) d
            have p7' : u.2.1 19 (100 + 4 * (8 * a + b) + 2) = nI (tw (nw τ) a b) := by rw [show u.2.1 19 = τ.2.1 19 from c3]; exact p7
            have hs : sc (nw τ) c b = tw (nw τ) a b := by unfold sc; rw [d]
            have q2 := t_takenAt (F := F) (by omega) hNu (c := c) (g := b) (by rw [c3]; exact g1) (by omega)
            rw [c3, d] at q2
            rw [hs] at ih'
            by_cases d2 : tw (nw τ) a b < i + 1
            · rw [decide_eq_true d2] at ih'
              simp only [if_true] at ih'
              simp (disch := omega) only [↓bnd_i, ↓cal_s, ↓cal_n, ↓cal2_s, ↓cal2_n, cal_s, cal2_s, ↓reduceIte, fa_lit, m1_lit, m2_lit, m1_lt, m2_lt, m1_eq, m2_eq, m1_le, m2_le, le_m1, le_m2, lt_m1, lt_m2, m12, m21, m1_m1, n_lt, n_le, n_eq, lt_t, lt_f, le_t, le_f, eq_t, eq_f, n_cl, inb_ok, n_add, pk_mul, pk_sub, n_rem, n_div, n_dec, n_mx, n_mn, eq_m1, eq_m2, ss_same, ss_ne, ss_r, ss_l, sr_f, sr_l, sr_same, sr_ne, sw_f, sw_l, sw_at, sw_ne, pk_us, pk_un, bI_t, bI_f, not_true_eq_false, not_false_eq_true, eq_self, and_true, true_and, and_false, false_and, or_true, true_or, or_false, false_or, decide_true, decide_false, Bool.false_eq_true, Bool.true_eq_false, ↓cal_w (tcb), tcb, ↓cal_w (q2), q2, ta, p7', f_X8_work_63]
              exact ih'
            · rw [decide_eq_false d2] at ih'
              simp only [Bool.false_eq_true, if_false, Nat.add_zero] at ih'
              simp (disch := omega) only [↓bnd_i, ↓cal_s, ↓cal_n, ↓cal2_s, ↓cal2_n, cal_s, cal2_s, ↓reduceIte, fa_lit, m1_lit, m2_lit, m1_lt, m2_lt, m1_eq, m2_eq, m1_le, m2_le, le_m1, le_m2, lt_m1, lt_m2, m12, m21, m1_m1, n_lt, n_le, n_eq, lt_t, lt_f, le_t, le_f, eq_t, eq_f, n_cl, inb_ok, n_add, pk_mul, pk_sub, n_rem, n_div, n_dec, n_mx, n_mn, eq_m1, eq_m2, ss_same, ss_ne, ss_r, ss_l, sr_f, sr_l, sr_same, sr_ne, sw_f, sw_l, sw_at, sw_ne, pk_us, pk_un, bI_t, bI_f, not_true_eq_false, not_false_eq_true, eq_self, and_true, true_and, and_false, false_and, or_true, true_or, or_false, false_or, decide_true, decide_false, Bool.false_eq_true, Bool.true_eq_false, ↓cal_w (tcb), tcb, ↓cal_w (q2), q2, ta, p7', f_X8_work_63]
              exact ih'
    have k := key F 0 (by omega) (by omega)
    have k' : f_X8_work_21 F F u (nI c) (nI l) (nI p) (nI 0) (nI 1) = some (nI (cb (nw τ) c l p), u) := k
    simp (disch := omega) only [↓bnd_i, ↓cal_s, ↓cal_n, ↓cal2_s, ↓cal2_n, cal_s, cal2_s, ↓reduceIte, fa_lit, m1_lit, m2_lit, m1_lt, m2_lt, m1_eq, m2_eq, m1_le, m2_le, le_m1, le_m2, lt_m1, lt_m2, m12, m21, m1_m1, n_lt, n_le, n_eq, lt_t, lt_f, le_t, le_f, eq_t, eq_f, n_cl, inb_ok, n_add, pk_mul, pk_sub, n_rem, n_div, n_dec, n_mx, n_mn, eq_m1, eq_m2, ss_same, ss_ne, ss_r, ss_l, sr_f, sr_l, sr_same, sr_ne, sw_f, sw_l, sw_at, sw_ne, pk_us, pk_un, bI_t, bI_f, not_true_eq_false, not_false_eq_true, eq_self, and_true, true_and, and_false, false_and, or_true, true_or, or_false, false_or, decide_true, decide_false, Bool.false_eq_true, Bool.true_eq_false, ↓cal_w (a1), a1, ↓cal_w (w1), w1, ↓cal_w (w2), w2, ↓cal_w (w3), w3, ↓cal2_w (c1), c1, ↓cal2_w (k'), k']
    exact opA C a2 a3 c2 c3 _
theorem op_bestL {F : Nat} (hF : 300 < F) {N : Nat → Int32} (h : NN N) {l p : Nat} (hl : l < nl N) (hp : p ≤ tp N l) : ∀ (n c : Nat) (bo : Option Nat) (few : Nat) (σ τ : St), nw τ = N → JJ σ N → c ≤ nc N → nc N - c < n → (∀ b, bo = some b → b < 10) → few ≤ 241 → Op σ τ (f_X7_best_23 F n σ (nI l) (nI p) (wX bo) (nI few) (nI c)) (f_X8_best_20 F n τ (nI l) (nI p) (wX bo) (nI few) (nI c)) := by
  obtain ⟨b1, b2, b3, b4, b5, b6, b7, b8⟩ := NNb h
  have ht := (h.2.1.1 l hl).2
  intro n
  induction n with
  | zero => intro c bo few σ τ _ _ _ h; omega
  | succ n ih =>
    intro c bo few σ τ hN hJ hc hn hbo hfew
    have C : Core σ τ := by unfold Core; rw [hN]; exact ⟨h, hJ⟩
    have e8 := (JJf h hJ).2.2.2.2
    have h5 : τ.2.1 19 5 = nI (nc N) := by rw [show τ.2.1 19 = N from hN]; exact h.1.2.2.2.2.2.1.1
    rw [f_X7_best_23, f_X8_best_20]
    by_cases e : c = nc N
    · subst e
      simp (disch := omega) only [↓bnd_i, ↓cal_s, ↓cal_n, ↓cal2_s, ↓cal2_n, cal_s, cal2_s, ↓reduceIte, fa_lit, m1_lit, m2_lit, m1_lt, m2_lt, m1_eq, m2_eq, m1_le, m2_le, le_m1, le_m2, lt_m1, lt_m2, m12, m21, m1_m1, n_lt, n_le, n_eq, lt_t, lt_f, le_t, le_f, eq_t, eq_f, n_cl, inb_ok, n_add, pk_mul, pk_sub, n_rem, n_div, n_dec, n_mx, n_mn, eq_m1, eq_m2, ss_same, ss_ne, ss_r, ss_l, sr_f, sr_l, sr_same, sr_ne, sw_f, sw_l, sw_at, sw_ne, pk_us, pk_un, bI_t, bI_f, not_true_eq_false, not_false_eq_true, eq_self, and_true, true_and, and_false, false_and, or_true, true_or, or_false, false_or, decide_true, decide_false, Bool.false_eq_true, Bool.true_eq_false, e8, h5]
      exact Op.same C _
    · obtain ⟨t, u, a1, c1, a2, a3, a4, a5, c2, c3, c4⟩ := both (F := F) hF C (nI c) (nI l) (nI p)
      rw [hN] at c1 a2 a5 c3 c4
      have w0 := d_outcomeAt (F := F) h a2 a4 a5 (nI p)
      have ol := ocx_le h (nI c) (nI l) (nI p)
      have nxt : ∀ bo few, (∀ b, bo = some b → b < 10) → few ≤ 241 → Op σ τ (f_X7_best_23 F n t (nI l) (nI p) (wX bo) (nI few) (nI (c + 1))) (f_X8_best_20 F n u (nI l) (nI p) (wX bo) (nI few) (nI (c + 1))) := fun bo few h1 h2 => Op.then a3 c2 (by rw [c3, hN]) (ih (c + 1) bo few t u c3 a2 (by omega) (by omega) h1 h2)
      obtain ⟨rn, w3⟩ : ∃ r, f_X3_neededTo F t (nI p) = some r := by
        unfold f_X3_neededTo
        split
        · exact ⟨_, rfl⟩
        · split <;> exact ⟨_, rfl⟩
      by_cases o0 : ocx N (nI c) (nI l) (nI p) = 0
      · obtain ⟨c', l', p', e1, e2, e3, g⟩ := nd_gd h (x := nI c) (y := nI l) (z := nI p) (by unfold nd; rw [o0]; decide)
        have hg := g
        obtain ⟨g1, g2, g3, -⟩ := hg
        have hg3 := (h.2.1.1 l' g2).2
        rw [n_eq (by omega) (by omega)] at e1 e2 e3
        subst e1 e2 e3
        have w3' := d_neededTo (F := F) h g a5
        rw [w3] at w3'
        cases w3'
        obtain ⟨r1, r2⟩ := c4 c l p rfl rfl rfl g
        have hfp := fc_le (N := N) (c := c) (l := l) (p := p)
        rw [o0] at w0 c1
        have hned : ned N c l p ≤ 241 := by unfold ned; split <;> omega
        have N1' := nxt (some c) (ned N c l p) (fun b q => by cases q; omega) hned
        have N2' := nxt bo few hbo hfew
        have hr : (u.1 15 = m1 ∧ ned N c l p = 0) ∨ (u.1 15 = nI (fc N c l p) ∧ fc N c l p ≤ p ∧ ned N c l p = p - fc N c l p + 1) := by
          unfold ned
          by_cases f0 : fc N c l p = 0
          · exact Or.inl ⟨by rw [r1, fx_0 f0], if_pos f0⟩
          · exact Or.inr ⟨by rw [r1, fx_s f0], hfp, if_neg f0⟩
        generalize hz : ned N c l p = z at *
        rcases hr with ⟨hr, hz0⟩ | ⟨hr, hr2, hz0⟩
        · cases bo with
          | none =>
            simp (disch := omega) only [↓bnd_i, ↓cal_s, ↓cal_n, ↓cal2_s, ↓cal2_n, cal_s, cal2_s, ↓reduceIte, fa_lit, m1_lit, m2_lit, m1_lt, m2_lt, m1_eq, m2_eq, m1_le, m2_le, le_m1, le_m2, lt_m1, lt_m2, m12, m21, m1_m1, n_lt, n_le, n_eq, lt_t, lt_f, le_t, le_f, eq_t, eq_f, n_cl, inb_ok, n_add, pk_mul, pk_sub, n_rem, n_div, n_dec, n_mx, n_mn, eq_m1, eq_m2, ss_same, ss_ne, ss_r, ss_l, sr_f, sr_l, sr_same, sr_ne, sw_f, sw_l, sw_at, sw_ne, pk_us, pk_un, bI_t, bI_f, not_true_eq_false, not_false_eq_true, eq_self, and_true, true_and, and_false, false_and, or_true, true_or, or_false, false_or, decide_true, decide_false, Bool.false_eq_true, Bool.true_eq_false, ↓cal_w (a1), a1, ↓cal_w (w3), w3, ↓cal_w (w0), w0, ↓cal2_w (c1), c1, e8, h5, hr, wX, f_X7_best_79, f_X7_best_86, f_X8_best_64, f_X8_best_80, f_X8_best_87]
            rw [hz0] at N1' ⊢
            exact N1'
          | some b =>
            have hb := hbo b rfl
            by_cases q : z ≤ few
            · simp (disch := omega) only [↓bnd_i, ↓cal_s, ↓cal_n, ↓cal2_s, ↓cal2_n, cal_s, cal2_s, ↓reduceIte, fa_lit, m1_lit, m2_lit, m1_lt, m2_lt, m1_eq, m2_eq, m1_le, m2_le, le_m1, le_m2, lt_m1, lt_m2, m12, m21, m1_m1, n_lt, n_le, n_eq, lt_t, lt_f, le_t, le_f, eq_t, eq_f, n_cl, inb_ok, n_add, pk_mul, pk_sub, n_rem, n_div, n_dec, n_mx, n_mn, eq_m1, eq_m2, ss_same, ss_ne, ss_r, ss_l, sr_f, sr_l, sr_same, sr_ne, sw_f, sw_l, sw_at, sw_ne, pk_us, pk_un, bI_t, bI_f, not_true_eq_false, not_false_eq_true, eq_self, and_true, true_and, and_false, false_and, or_true, true_or, or_false, false_or, decide_true, decide_false, Bool.false_eq_true, Bool.true_eq_false, ↓cal_w (a1), a1, ↓cal_w (w3), w3, ↓cal_w (w0), w0, ↓cal2_w (c1), c1, e8, h5, hr, wX, f_X7_best_79, f_X7_best_86, f_X8_best_64, f_X8_best_80, f_X8_best_87]
              rw [hz0] at N1' ⊢
              exact N1'
            · omega
        · cases bo with
          | none =>
            simp (disch := omega) only [↓bnd_i, ↓cal_s, ↓cal_n, ↓cal2_s, ↓cal2_n, cal_s, cal2_s, ↓reduceIte, fa_lit, m1_lit, m2_lit, m1_lt, m2_lt, m1_eq, m2_eq, m1_le, m2_le, le_m1, le_m2, lt_m1, lt_m2, m12, m21, m1_m1, n_lt, n_le, n_eq, lt_t, lt_f, le_t, le_f, eq_t, eq_f, n_cl, inb_ok, n_add, pk_mul, pk_sub, n_rem, n_div, n_dec, n_mx, n_mn, eq_m1, eq_m2, ss_same, ss_ne, ss_r, ss_l, sr_f, sr_l, sr_same, sr_ne, sw_f, sw_l, sw_at, sw_ne, pk_us, pk_un, bI_t, bI_f, not_true_eq_false, not_false_eq_true, eq_self, and_true, true_and, and_false, false_and, or_true, true_or, or_false, false_or, decide_true, decide_false, Bool.false_eq_true, Bool.true_eq_false, ↓cal_w (a1), a1, ↓cal_w (w3), w3, ↓cal_w (w0), w0, ↓cal2_w (c1), c1, e8, h5, hr, wX, f_X7_best_79, f_X7_best_86, f_X8_best_64, f_X8_best_80, f_X8_best_87]
            rw [← hz0]
            exact N1'
          | some b =>
            have hb := hbo b rfl
            by_cases q : z ≤ few
            · simp (disch := omega) only [↓bnd_i, ↓cal_s, ↓cal_n, ↓cal2_s, ↓cal2_n, cal_s, cal2_s, ↓reduceIte, fa_lit, m1_lit, m2_lit, m1_lt, m2_lt, m1_eq, m2_eq, m1_le, m2_le, le_m1, le_m2, lt_m1, lt_m2, m12, m21, m1_m1, n_lt, n_le, n_eq, lt_t, lt_f, le_t, le_f, eq_t, eq_f, n_cl, inb_ok, n_add, pk_mul, pk_sub, n_rem, n_div, n_dec, n_mx, n_mn, eq_m1, eq_m2, ss_same, ss_ne, ss_r, ss_l, sr_f, sr_l, sr_same, sr_ne, sw_f, sw_l, sw_at, sw_ne, pk_us, pk_un, bI_t, bI_f, not_true_eq_false, not_false_eq_true, eq_self, and_true, true_and, and_false, false_and, or_true, true_or, or_false, false_or, decide_true, decide_false, Bool.false_eq_true, Bool.true_eq_false, ↓cal_w (a1), a1, ↓cal_w (w3), w3, ↓cal_w (w0), w0, ↓cal2_w (c1), c1, e8, h5, hr, wX, f_X7_best_79, f_X7_best_86, f_X8_best_64, f_X8_best_80, f_X8_best_87]
              rw [← hz0]
              exact N1'
            · simp (disch := omega) only [↓bnd_i, ↓cal_s, ↓cal_n, ↓cal2_s, ↓cal2_n, cal_s, cal2_s, ↓reduceIte, fa_lit, m1_lit, m2_lit, m1_lt, m2_lt, m1_eq, m2_eq, m1_le, m2_le, le_m1, le_m2, lt_m1, lt_m2, m12, m21, m1_m1, n_lt, n_le, n_eq, lt_t, lt_f, le_t, le_f, eq_t, eq_f, n_cl, inb_ok, n_add, pk_mul, pk_sub, n_rem, n_div, n_dec, n_mx, n_mn, eq_m1, eq_m2, ss_same, ss_ne, ss_r, ss_l, sr_f, sr_l, sr_same, sr_ne, sw_f, sw_l, sw_at, sw_ne, pk_us, pk_un, bI_t, bI_f, not_true_eq_false, not_false_eq_true, eq_self, and_true, true_and, and_false, false_and, or_true, true_or, or_false, false_or, decide_true, decide_false, Bool.false_eq_true, Bool.true_eq_false, ↓cal_w (a1), a1, ↓cal_w (w3), w3, ↓cal_w (w0), w0, ↓cal2_w (c1), c1, e8, h5, hr, wX, f_X7_best_79, f_X7_best_86, f_X8_best_64, f_X8_best_80, f_X8_best_87]
              exact N2'
      · have N2' := nxt bo few hbo hfew
        simp (disch := omega) only [↓bnd_i, ↓cal_s, ↓cal_n, ↓cal2_s, ↓cal2_n, cal_s, cal2_s, ↓reduceIte, fa_lit, m1_lit, m2_lit, m1_lt, m2_lt, m1_eq, m2_eq, m1_le, m2_le, le_m1, le_m2, lt_m1, lt_m2, m12, m21, m1_m1, n_lt, n_le, n_eq, lt_t, lt_f, le_t, le_f, eq_t, eq_f, n_cl, inb_ok, n_add, pk_mul, pk_sub, n_rem, n_div, n_dec, n_mx, n_mn, eq_m1, eq_m2, ss_same, ss_ne, ss_r, ss_l, sr_f, sr_l, sr_same, sr_ne, sw_f, sw_l, sw_at, sw_ne, pk_us, pk_un, bI_t, bI_f, not_true_eq_false, not_false_eq_true, eq_self, and_true, true_and, and_false, false_and, or_true, true_or, or_false, false_or, decide_true, decide_false, Bool.false_eq_true, Bool.true_eq_false, ↓cal_w (a1), a1, ↓cal_w (w3), w3, ↓cal_w (w0), w0, ↓cal2_w (c1), c1, e8, h5, f_X7_best_86, f_X8_best_87]
        exact N2'
theorem op_best {F : Nat} (hF : 300 < F) {σ τ : St} (C : Core σ τ) (x y : Int32) : Op σ τ (f_X7_best F σ x y) (f_X8_best F τ x y) := by
  obtain ⟨b1, b2, b3, b4, b5, b6, b7, b8⟩ := NNb C.1
  unfold f_X7_best f_X8_best
  cases d : hasP (nw τ) x y
  · simp (disch := omega) only [↓bnd_i, ↓cal_s, ↓cal_n, ↓cal2_s, ↓cal2_n, cal_s, cal2_s, ↓reduceIte, fa_lit, m1_lit, m2_lit, m1_lt, m2_lt, m1_eq, m2_eq, m1_le, m2_le, le_m1, le_m2, lt_m1, lt_m2, m12, m21, m1_m1, n_lt, n_le, n_eq, lt_t, lt_f, le_t, le_f, eq_t, eq_f, n_cl, inb_ok, n_add, pk_mul, pk_sub, n_rem, n_div, n_dec, n_mx, n_mn, eq_m1, eq_m2, ss_same, ss_ne, ss_r, ss_l, sr_f, sr_l, sr_same, sr_ne, sw_f, sw_l, sw_at, sw_ne, pk_us, pk_un, bI_t, bI_f, not_true_eq_false, not_false_eq_true, eq_self, and_true, true_and, and_false, false_and, or_true, true_or, or_false, false_or, decide_true, decide_false, Bool.false_eq_true, Bool.true_eq_false, ↓cal_w (d_hasPlace C.1 C.2 x y), d_hasPlace C.1 C.2 x y, ↓cal_w (t_isAt C.1 x y), t_isAt C.1 x y, d]
    exact Op.same C _
  · obtain ⟨l, p, hl, hp, ht, rfl, rfl⟩ := hasP_e C.1 d
    have k := op_bestL hF C.1 hl hp F 0 none 0 σ τ rfl C.2 (by omega) (by omega) (fun b q => by cases q) (by omega)
    simp (disch := omega) only [↓bnd_i, ↓cal_s, ↓cal_n, ↓cal2_s, ↓cal2_n, cal_s, cal2_s, ↓reduceIte, fa_lit, m1_lit, m2_lit, m1_lt, m2_lt, m1_eq, m2_eq, m1_le, m2_le, le_m1, le_m2, lt_m1, lt_m2, m12, m21, m1_m1, n_lt, n_le, n_eq, lt_t, lt_f, le_t, le_f, eq_t, eq_f, n_cl, inb_ok, n_add, pk_mul, pk_sub, n_rem, n_div, n_dec, n_mx, n_mn, eq_m1, eq_m2, ss_same, ss_ne, ss_r, ss_l, sr_f, sr_l, sr_same, sr_ne, sw_f, sw_l, sw_at, sw_ne, pk_us, pk_un, bI_t, bI_f, not_true_eq_false, not_false_eq_true, eq_self, and_true, true_and, and_false, false_and, or_true, true_or, or_false, false_or, decide_true, decide_false, Bool.false_eq_true, Bool.true_eq_false, ↓cal_w (d_hasPlace C.1 C.2 _ _), d_hasPlace C.1 C.2 _ _, ↓cal_w (t_isAt C.1 _ _), t_isAt C.1 _ _, d]
    exact k
