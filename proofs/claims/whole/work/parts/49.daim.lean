/-! PURE: the desk's outlook -/
theorem d_lookAtPages {F : Nat} (hF : 20 < F) {σ : St} {N : Nat → Int32} (h : NN N) {c l : Nat} (hc : c < nc N) (hl : l < nl N) (hf : ft N c = true) : ∀ (n g : Nat) (t : St), JJ t N → Fr σ t → t.1 11 = nI l → t.1 14 = nI (ltF N c g) → (∀ i, i < g → t.2.1 25 i = nI (sc N c i)) → g ≤ pg N → pg N - g < n → ∃ t', f_X3_lookAtPages_4 F n t (nI c) (nI (if abF N c l g then 2 else 0)) (nI g) = some (nI (if abF N c l (pg N) then 2 else 0), t') ∧ JJ t' N ∧ Fr σ t' ∧ t'.1 14 = nI (ltF N c (pg N)) ∧ (∀ i, i < pg N → t'.2.1 25 i = nI (sc N c i)) ∧ ∀ k, k ≠ 14 → t'.1 k = t.1 k := by
  obtain ⟨b1, b2, b3, b4, b5, b6, b7, b8⟩ := NNb h
  intro n
  induction n with
  | zero => intro g t _ _ _ _ _ _ h; omega
  | succ n ih =>
    intro g t hJ hFr h11 h14 h25 hg hn
    have e4 := (JJf h hJ).1
    rw [f_X3_lookAtPages_4]
    by_cases e : g = pg N
    · subst e
      refine ⟨t, ?_, hJ, hFr, h14, h25, fun k _ => rfl⟩
      simp (disch := omega) only [↓bnd_i, ↓cal_s, ↓cal_n, ↓cal2_s, ↓cal2_n, cal_s, cal2_s, ↓reduceIte, fa_lit, m1_lit, m2_lit, m1_lt, m2_lt, m1_eq, m2_eq, m1_le, m2_le, le_m1, le_m2, lt_m1, lt_m2, m12, m21, m1_m1, n_lt, n_le, n_eq, lt_t, lt_f, le_t, le_f, eq_t, eq_f, n_cl, inb_ok, n_add, pk_mul, pk_sub, n_rem, n_div, n_dec, n_mx, n_mn, eq_m1, eq_m2, ss_same, ss_ne, ss_r, ss_l, sr_f, sr_l, sr_same, sr_ne, sw_f, sw_l, sw_at, sw_ne, pk_us, pk_un, bI_t, bI_f, not_true_eq_false, not_false_eq_true, eq_self, and_true, true_and, and_false, false_and, or_true, true_or, or_false, false_or, decide_true, decide_false, Bool.false_eq_true, Bool.true_eq_false, e4]
    · obtain ⟨a, d⟩ := ft_some hf (show g < pg N by omega)
      obtain ⟨p1, p2, p3, p4, p5, p6, p7, p8⟩ := tc_in h hc (show g < 8 by omega) d
      obtain ⟨r1, r2, r3⟩ := j_cell hJ p2 (show g < 8 by omega) p3
      have hs : sc N c g = tw N a g := by unfold sc; rw [d]
      have hb : bg N c l g = brF N 8 l (tl N a g) (tw N a g) := by unfold bg; rw [d]
      have q1 := d_cellOf (F := F) hF h hJ hc (show g < 8 by omega)
      rw [d] at q1
      have hlt := ltF_le h hc g (by omega)
      generalize hu : ss (sr t 25 g (nI (tw N a g))) 14 (nI (max (ltF N c g) (tw N a g))) = u
      have uJ : JJ u N := by
        rw [← hu]
        exact JJ_same hJ (fun k h1 h2 => ss_ne (by omega)) (fun r h1 h2 => sr_ne (by omega))
      have uF : Fr σ u := by
        rw [← hu]
        exact (hFr.sr (by omega) (by omega)).ss (by omega) (by omega)
      have u11 : u.1 11 = nI l := by rw [← hu, ss_ne (by omega)]; exact h11
      have u14 : u.1 14 = nI (ltF N c (g + 1)) := by rw [← hu, ss_same, ltF, hs]
      have u25g : u.2.1 25 g = nI (tw N a g) := by rw [← hu, ss_r, sr_same, pk_us]
      have u25 : ∀ i, i < g + 1 → u.2.1 25 i = nI (sc N c i) := by
        intro i hi
        rw [← hu, ss_r, sr_same]
        by_cases c2 : i = g
        · subst c2; rw [pk_us, hs]
        · rw [pk_un c2]; exact h25 i (by omega)
      have uk : ∀ k, k ≠ 14 → u.1 k = t.1 k := fun k hk => by rw [← hu, ss_ne hk]; rfl
      obtain ⟨t', x1, x2, x3, x4, x5, x6⟩ := ih (g + 1) u uJ uF u11 u14 u25 (by omega) (by omega)
      refine ⟨t', ?_, x2, x3, x4, x5, fun k hk => (x6 k hk).trans (uk k hk)⟩
      have w1 := d_leadsTo (F := F) hF h uJ hl p6 p8
      have s1 : u.2.1 22 (a * 8 + g) = nI (tl N a g) := by rw [← hu, ss_r, sr_ne (by omega)]; exact r1
      rw [abF, hb] at x1
      cases d2 : brF N 8 l (tl N a g) (tw N a g)
      · rw [d2] at w1 x1
        rw [Bool.or_false] at x1
        simp (disch := omega) only [↓bnd_i, ↓cal_s, ↓cal_n, ↓cal2_s, ↓cal2_n, cal_s, cal2_s, ↓reduceIte, fa_lit, m1_lit, m2_lit, m1_lt, m2_lt, m1_eq, m2_eq, m1_le, m2_le, le_m1, le_m2, lt_m1, lt_m2, m12, m21, m1_m1, n_lt, n_le, n_eq, lt_t, lt_f, le_t, le_f, eq_t, eq_f, n_cl, inb_ok, n_add, pk_mul, pk_sub, n_rem, n_div, n_dec, n_mx, n_mn, eq_m1, eq_m2, ss_same, ss_ne, ss_r, ss_l, sr_f, sr_l, sr_same, sr_ne, sw_f, sw_l, sw_at, sw_ne, pk_us, pk_un, bI_t, bI_f, not_true_eq_false, not_false_eq_true, eq_self, and_true, true_and, and_false, false_and, or_true, true_or, or_false, false_or, decide_true, decide_false, Bool.false_eq_true, Bool.true_eq_false, ↓cal_w (q1), q1, e4, cl, f_X0_placeIn, f_X0_sourceIn, r1, r2, h11, h14, hu]
        simp (disch := omega) only [↓bnd_i, ↓cal_s, ↓cal_n, ↓cal2_s, ↓cal2_n, cal_s, cal2_s, ↓reduceIte, fa_lit, m1_lit, m2_lit, m1_lt, m2_lt, m1_eq, m2_eq, m1_le, m2_le, le_m1, le_m2, lt_m1, lt_m2, m12, m21, m1_m1, n_lt, n_le, n_eq, lt_t, lt_f, le_t, le_f, eq_t, eq_f, n_cl, inb_ok, n_add, pk_mul, pk_sub, n_rem, n_div, n_dec, n_mx, n_mn, eq_m1, eq_m2, ss_same, ss_ne, ss_r, ss_l, sr_f, sr_l, sr_same, sr_ne, sw_f, sw_l, sw_at, sw_ne, pk_us, pk_un, bI_t, bI_f, not_true_eq_false, not_false_eq_true, eq_self, and_true, true_and, and_false, false_and, or_true, true_or, or_false, false_or, decide_true, decide_false, Bool.false_eq_true, Bool.true_eq_false, ↓cal_w (w1), w1, Bool.not_false, f_X3_lookAtPages_98]
        exact x1
      · rw [d2] at w1 x1
        rw [Bool.or_true, if_pos rfl] at x1
        simp (disch := omega) only [↓bnd_i, ↓cal_s, ↓cal_n, ↓cal2_s, ↓cal2_n, cal_s, cal2_s, ↓reduceIte, fa_lit, m1_lit, m2_lit, m1_lt, m2_lt, m1_eq, m2_eq, m1_le, m2_le, le_m1, le_m2, lt_m1, lt_m2, m12, m21, m1_m1, n_lt, n_le, n_eq, lt_t, lt_f, le_t, le_f, eq_t, eq_f, n_cl, inb_ok, n_add, pk_mul, pk_sub, n_rem, n_div, n_dec, n_mx, n_mn, eq_m1, eq_m2, ss_same, ss_ne, ss_r, ss_l, sr_f, sr_l, sr_same, sr_ne, sw_f, sw_l, sw_at, sw_ne, pk_us, pk_un, bI_t, bI_f, not_true_eq_false, not_false_eq_true, eq_self, and_true, true_and, and_false, false_and, or_true, true_or, or_false, false_or, decide_true, decide_false, Bool.false_eq_true, Bool.true_eq_false, ↓cal_w (q1), q1, e4, cl, f_X0_placeIn, f_X0_sourceIn, r1, r2, h11, h14, hu]
        simp (disch := omega) only [↓bnd_i, ↓cal_s, ↓cal_n, ↓cal2_s, ↓cal2_n, cal_s, cal2_s, ↓reduceIte, fa_lit, m1_lit, m2_lit, m1_lt, m2_lt, m1_eq, m2_eq, m1_le, m2_le, le_m1, le_m2, lt_m1, lt_m2, m12, m21, m1_m1, n_lt, n_le, n_eq, lt_t, lt_f, le_t, le_f, eq_t, eq_f, n_cl, inb_ok, n_add, pk_mul, pk_sub, n_rem, n_div, n_dec, n_mx, n_mn, eq_m1, eq_m2, ss_same, ss_ne, ss_r, ss_l, sr_f, sr_l, sr_same, sr_ne, sw_f, sw_l, sw_at, sw_ne, pk_us, pk_un, bI_t, bI_f, not_true_eq_false, not_false_eq_true, eq_self, and_true, true_and, and_false, false_and, or_true, true_or, or_false, false_or, decide_true, decide_false, Bool.false_eq_true, Bool.true_eq_false, ↓cal_w (w1), w1, Bool.not_true, f_X3_lookAtPages_98]
        exact x1
theorem d_isBehind {F : Nat} {σ : St} {N : Nat → Int32} (h : NN N) {c l i : Nat} (hc : c < nc N) (hl : l < nl N) (hi : 1 ≤ i) (hp : i ≤ tp N l) (h25 : ∀ i, i < pg N → σ.2.1 25 i = nI (sc N c i)) : f_X3_isBehind F σ (chg N l i) (nI i) = some (bI (bh N c l i)) := by
  obtain ⟨b1, b2, b3, b4, b5, b6, b7, b8⟩ := NNb h
  have ht := (h.2.1.1 l hl).2
  unfold f_X3_isBehind
  rcases chg_in h hl hi hp with e | ⟨g, hg, e⟩
  · rw [bh_n e, e]
    simp (disch := omega) only [↓bnd_i, ↓cal_s, ↓cal_n, ↓cal2_s, ↓cal2_n, cal_s, cal2_s, ↓reduceIte, fa_lit, m1_lit, m2_lit, m1_lt, m2_lt, m1_eq, m2_eq, m1_le, m2_le, le_m1, le_m2, lt_m1, lt_m2, m12, m21, m1_m1, n_lt, n_le, n_eq, lt_t, lt_f, le_t, le_f, eq_t, eq_f, n_cl, inb_ok, n_add, pk_mul, pk_sub, n_rem, n_div, n_dec, n_mx, n_mn, eq_m1, eq_m2, ss_same, ss_ne, ss_r, ss_l, sr_f, sr_l, sr_same, sr_ne, sw_f, sw_l, sw_at, sw_ne, pk_us, pk_un, bI_t, bI_f, not_true_eq_false, not_false_eq_true, eq_self, and_true, true_and, and_false, false_and, or_true, true_or, or_false, false_or, decide_true, decide_false, Bool.false_eq_true, Bool.true_eq_false]
  · have hs := sc_le h hc (show g < 8 by omega)
    rw [bh_g (by omega) e, e]
    by_cases d : sc N c g < i
    · simp (disch := omega) only [↓bnd_i, ↓cal_s, ↓cal_n, ↓cal2_s, ↓cal2_n, cal_s, cal2_s, ↓reduceIte, fa_lit, m1_lit, m2_lit, m1_lt, m2_lt, m1_eq, m2_eq, m1_le, m2_le, le_m1, le_m2, lt_m1, lt_m2, m12, m21, m1_m1, n_lt, n_le, n_eq, lt_t, lt_f, le_t, le_f, eq_t, eq_f, n_cl, inb_ok, n_add, pk_mul, pk_sub, n_rem, n_div, n_dec, n_mx, n_mn, eq_m1, eq_m2, ss_same, ss_ne, ss_r, ss_l, sr_f, sr_l, sr_same, sr_ne, sw_f, sw_l, sw_at, sw_ne, pk_us, pk_un, bI_t, bI_f, not_true_eq_false, not_false_eq_true, eq_self, and_true, true_and, and_false, false_and, or_true, true_or, or_false, false_or, decide_true, decide_false, Bool.false_eq_true, Bool.true_eq_false, h25 g hg]
    · simp (disch := omega) only [↓bnd_i, ↓cal_s, ↓cal_n, ↓cal2_s, ↓cal2_n, cal_s, cal2_s, ↓reduceIte, fa_lit, m1_lit, m2_lit, m1_lt, m2_lt, m1_eq, m2_eq, m1_le, m2_le, le_m1, le_m2, lt_m1, lt_m2, m12, m21, m1_m1, n_lt, n_le, n_eq, lt_t, lt_f, le_t, le_f, eq_t, eq_f, n_cl, inb_ok, n_add, pk_mul, pk_sub, n_rem, n_div, n_dec, n_mx, n_mn, eq_m1, eq_m2, ss_same, ss_ne, ss_r, ss_l, sr_f, sr_l, sr_same, sr_ne, sw_f, sw_l, sw_at, sw_ne, pk_us, pk_un, bI_t, bI_f, not_true_eq_false, not_false_eq_true, eq_self, and_true, true_and, and_false, false_and, or_true, true_or, or_false, false_or, decide_true, decide_false, Bool.false_eq_true, Bool.true_eq_false, h25 g hg]
theorem d_firstChange {F : Nat} (hF : 300 < F) {σ : St} {N : Nat → Int32} (h : NN N) (j : JJ σ N) {c l : Nat} (hc : c < nc N) (hl : l < nl N) (h11 : σ.1 11 = nI l) (h25 : ∀ i, i < pg N → σ.2.1 25 i = nI (sc N c i)) : f_X3_firstChange F σ = some (fx m2 (fc N c l (tp N l))) := by
  have ht := (h.2.1.1 l hl).2
  have key : ∀ m i n, 1 ≤ i → i + m = tp N l + 1 → m < n → f_X3_firstChange_14 F n σ (nI (tp N l)) (nI i) = some (fx m2 (fcF N c l m i)) := by
    intro m
    induction m with
    | zero =>
      intro i n hi he hn
      obtain ⟨n, rfl⟩ : ∃ k, n = k + 1 := ⟨n - 1, by omega⟩
      rw [f_X3_firstChange_14, show fcF N c l 0 i = 0 from rfl, fx_0 rfl]
      simp (disch := omega) only [↓bnd_i, ↓cal_s, ↓cal_n, ↓cal2_s, ↓cal2_n, cal_s, cal2_s, ↓reduceIte, fa_lit, m1_lit, m2_lit, m1_lt, m2_lt, m1_eq, m2_eq, m1_le, m2_le, le_m1, le_m2, lt_m1, lt_m2, m12, m21, m1_m1, n_lt, n_le, n_eq, lt_t, lt_f, le_t, le_f, eq_t, eq_f, n_cl, inb_ok, n_add, pk_mul, pk_sub, n_rem, n_div, n_dec, n_mx, n_mn, eq_m1, eq_m2, ss_same, ss_ne, ss_r, ss_l, sr_f, sr_l, sr_same, sr_ne, sw_f, sw_l, sw_at, sw_ne, pk_us, pk_un, bI_t, bI_f, not_true_eq_false, not_false_eq_true, eq_self, and_true, true_and, and_false, false_and, or_true, true_or, or_false, false_or, decide_true, decide_false, Bool.false_eq_true, Bool.true_eq_false]
    | succ m ih =>
      intro i n hi he hn
      obtain ⟨n, rfl⟩ : ∃ k, n = k + 1 := ⟨n - 1, by omega⟩
      have ih' := ih (i + 1) n (by omega) (by omega) (by omega)
      have w := d_isBehind (F := F) h hc hl hi (show i ≤ tp N l by omega) h25
      rw [f_X3_firstChange_14, fcF_s]
      cases d : bh N c l i
      · rw [d] at w
        simp (disch := omega) only [↓bnd_i, ↓cal_s, ↓cal_n, ↓cal2_s, ↓cal2_n, cal_s, cal2_s, ↓reduceIte, fa_lit, m1_lit, m2_lit, m1_lt, m2_lt, m1_eq, m2_eq, m1_le, m2_le, le_m1, le_m2, lt_m1, lt_m2, m12, m21, m1_m1, n_lt, n_le, n_eq, lt_t, lt_f, le_t, le_f, eq_t, eq_f, n_cl, inb_ok, n_add, pk_mul, pk_sub, n_rem, n_div, n_dec, n_mx, n_mn, eq_m1, eq_m2, ss_same, ss_ne, ss_r, ss_l, sr_f, sr_l, sr_same, sr_ne, sw_f, sw_l, sw_at, sw_ne, pk_us, pk_un, bI_t, bI_f, not_true_eq_false, not_false_eq_true, eq_self, and_true, true_and, and_false, false_and, or_true, true_or, or_false, false_or, decide_true, decide_false, Bool.false_eq_true, Bool.true_eq_false, ↓cal_w (d_changedAt (show 8 < F by omega) h j hl hi (show i ≤ tp N l by omega)), d_changedAt (show 8 < F by omega) h j hl hi (show i ≤ tp N l by omega), ↓cal_w (w), w, h11]
        exact ih'
      · rw [d] at w
        rw [if_pos rfl, fx_s (by omega)]
        simp (disch := omega) only [↓bnd_i, ↓cal_s, ↓cal_n, ↓cal2_s, ↓cal2_n, cal_s, cal2_s, ↓reduceIte, fa_lit, m1_lit, m2_lit, m1_lt, m2_lt, m1_eq, m2_eq, m1_le, m2_le, le_m1, le_m2, lt_m1, lt_m2, m12, m21, m1_m1, n_lt, n_le, n_eq, lt_t, lt_f, le_t, le_f, eq_t, eq_f, n_cl, inb_ok, n_add, pk_mul, pk_sub, n_rem, n_div, n_dec, n_mx, n_mn, eq_m1, eq_m2, ss_same, ss_ne, ss_r, ss_l, sr_f, sr_l, sr_same, sr_ne, sw_f, sw_l, sw_at, sw_ne, pk_us, pk_un, bI_t, bI_f, not_true_eq_false, not_false_eq_true, eq_self, and_true, true_and, and_false, false_and, or_true, true_or, or_false, false_or, decide_true, decide_false, Bool.false_eq_true, Bool.true_eq_false, ↓cal_w (d_changedAt (show 8 < F by omega) h j hl hi (show i ≤ tp N l by omega)), d_changedAt (show 8 < F by omega) h j hl hi (show i ≤ tp N l by omega), ↓cal_w (w), w, h11]
  unfold f_X3_firstChange
  have k := key (tp N l) 1 F (by omega) (by omega) (by omega)
  simp (disch := omega) only [↓bnd_i, ↓cal_s, ↓cal_n, ↓cal2_s, ↓cal2_n, cal_s, cal2_s, ↓reduceIte, fa_lit, m1_lit, m2_lit, m1_lt, m2_lt, m1_eq, m2_eq, m1_le, m2_le, le_m1, le_m2, lt_m1, lt_m2, m12, m21, m1_m1, n_lt, n_le, n_eq, lt_t, lt_f, le_t, le_f, eq_t, eq_f, n_cl, inb_ok, n_add, pk_mul, pk_sub, n_rem, n_div, n_dec, n_mx, n_mn, eq_m1, eq_m2, ss_same, ss_ne, ss_r, ss_l, sr_f, sr_l, sr_same, sr_ne, sw_f, sw_l, sw_at, sw_ne, pk_us, pk_un, bI_t, bI_f, not_true_eq_false, not_false_eq_true, eq_self, and_true, true_and, and_false, false_and, or_true, true_or, or_false, false_or, decide_true, decide_false, Bool.false_eq_true, Bool.true_eq_false, ↓cal_w (d_tipOf h j hl), d_tipOf h j hl, h11]
  exact k
theorem d_lookAtPieces {F : Nat} {σ : St} (hF : 300 < F) {N : Nat → Int32} (h : NN N) {l f : Nat} (hl : l < nl N) (hf1 : 1 ≤ f) (hf : f ≤ tp N l) : ∀ (m k n : Nat) (t : St), JJ t N → Fr σ t → t.1 11 = nI l → t.1 13 = nI f → k + m = (tp N l - 1) / wd N + 1 → m < n → ∃ t', f_X3_lookAtPieces_34 F n t (nI ((tp N l - 1) / wd N)) (nI k) = some t' ∧ JJ t' N ∧ Fr σ t' ∧ t'.2 = t.2 ∧ (∀ i, i < 15 → t'.1 i = t.1 i) ∧ (bdF N l m k = none → t'.1 15 = t.1 15) ∧ ∀ B, bdF N l m k = some B → t'.1 15 = nI (max (f - 1) (B * wd N)) ∧ t'.1 16 = nI (hd N l B) ∧ t'.1 17 = nI B ∧ t'.1 18 = nI (hin N (hd N l B) B) := by
  obtain ⟨b1, b2, b3, b4, b5, b6, b7, b8⟩ := NNb h
  have ht := (h.2.1.1 l hl).2
  have hd120 := div120 (p := tp N l) (w := wd N) (by omega) b3 (by omega)
  intro m
  induction m with
  | zero =>
    intro k n t hJ hFr h11 h13 hk hn
    obtain ⟨n, rfl⟩ : ∃ k, n = k + 1 := ⟨n - 1, by omega⟩
    rw [f_X3_lookAtPieces_34]
    refine ⟨t, ?_, hJ, hFr, rfl, fun i _ => rfl, fun _ => rfl, fun B e => by cases e⟩
    simp (disch := omega) only [↓bnd_i, ↓cal_s, ↓cal_n, ↓cal2_s, ↓cal2_n, cal_s, cal2_s, ↓reduceIte, fa_lit, m1_lit, m2_lit, m1_lt, m2_lt, m1_eq, m2_eq, m1_le, m2_le, le_m1, le_m2, lt_m1, lt_m2, m12, m21, m1_m1, n_lt, n_le, n_eq, lt_t, lt_f, le_t, le_f, eq_t, eq_f, n_cl, inb_ok, n_add, pk_mul, pk_sub, n_rem, n_div, n_dec, n_mx, n_mn, eq_m1, eq_m2, ss_same, ss_ne, ss_r, ss_l, sr_f, sr_l, sr_same, sr_ne, sw_f, sw_l, sw_at, sw_ne, pk_us, pk_un, bI_t, bI_f, not_true_eq_false, not_false_eq_true, eq_self, and_true, true_and, and_false, false_and, or_true, true_or, or_false, false_or, decide_true, decide_false, Bool.false_eq_true, Bool.true_eq_false]
  | succ m ih =>
    intro k n t hJ hFr h11 h13 hk hn
    obtain ⟨n, rfl⟩ : ∃ k, n = k + 1 := ⟨n - 1, by omega⟩
    have e5 := (JJf h hJ).2.1
    have hkl := hd_lt h (k := k) hl
    have hkw : k * wd N < tp N l := by
      have := (Nat.le_div_iff_mul_le (x := k) (y := tp N l - 1) (show 0 < wd N by omega)).mp (by omega)
      omega
    have hle := hin_le (N := N) (l := hd N l k) (k := k)
    have hk8 : k * wd N ≤ 240 := by omega
    have w1 := d_keeperOf (F := F) (by omega) h hJ hl (show k < 120 by omega)
    have w2 := d_hindranceOf (F := F) h hJ (show hd N l k < nl N by omega) (show k < 120 by omega) (hd_in h l hl hkw)
    rw [f_X3_lookAtPieces_34, bdF_s]
    by_cases d : hin N (hd N l k) k = 0
    · rw [if_pos d]
      rw [d] at w2
      obtain ⟨t', x1, x2, x3, x4, x5, x6, x7⟩ := ih (k + 1) n (ss t 18 (nI 0)) (JJ_same hJ (fun k h1 h2 => ss_ne (by omega)) (fun r _ _ => rfl)) (hFr.ss (by omega) (by omega)) (by rw [ss_ne (by omega)]; exact h11) (by rw [ss_ne (by omega)]; exact h13) (by omega) (by omega)
      refine ⟨t', ?_, x2, x3, x4, fun i hi => (x5 i hi).trans (ss_ne (by omega)), fun q => (x6 q).trans (ss_ne (by omega)), x7⟩
      simp (disch := omega) only [↓bnd_i, ↓cal_s, ↓cal_n, ↓cal2_s, ↓cal2_n, cal_s, cal2_s, ↓reduceIte, fa_lit, m1_lit, m2_lit, m1_lt, m2_lt, m1_eq, m2_eq, m1_le, m2_le, le_m1, le_m2, lt_m1, lt_m2, m12, m21, m1_m1, n_lt, n_le, n_eq, lt_t, lt_f, le_t, le_f, eq_t, eq_f, n_cl, inb_ok, n_add, pk_mul, pk_sub, n_rem, n_div, n_dec, n_mx, n_mn, eq_m1, eq_m2, ss_same, ss_ne, ss_r, ss_l, sr_f, sr_l, sr_same, sr_ne, sw_f, sw_l, sw_at, sw_ne, pk_us, pk_un, bI_t, bI_f, not_true_eq_false, not_false_eq_true, eq_self, and_true, true_and, and_false, false_and, or_true, true_or, or_false, false_or, decide_true, decide_false, Bool.false_eq_true, Bool.true_eq_false, ↓cal_w (w1), w1, ↓cal_w (w2), w2, h11]
      exact x1
    · rw [if_neg d]
      refine ⟨ss (ss (ss (ss t 18 (nI (hin N (hd N l k) k))) 16 (nI (hd N l k))) 17 (nI k)) 15 (nI (max (f - 1) (k * wd N))), ?_, ?_, ?_, rfl, ?_, fun q => (by cases q), fun B q => ?_⟩
      · simp (disch := omega) only [↓bnd_i, ↓cal_s, ↓cal_n, ↓cal2_s, ↓cal2_n, cal_s, cal2_s, ↓reduceIte, fa_lit, m1_lit, m2_lit, m1_lt, m2_lt, m1_eq, m2_eq, m1_le, m2_le, le_m1, le_m2, lt_m1, lt_m2, m12, m21, m1_m1, n_lt, n_le, n_eq, lt_t, lt_f, le_t, le_f, eq_t, eq_f, n_cl, inb_ok, n_add, pk_mul, pk_sub, n_rem, n_div, n_dec, n_mx, n_mn, eq_m1, eq_m2, ss_same, ss_ne, ss_r, ss_l, sr_f, sr_l, sr_same, sr_ne, sw_f, sw_l, sw_at, sw_ne, pk_us, pk_un, bI_t, bI_f, not_true_eq_false, not_false_eq_true, eq_self, and_true, true_and, and_false, false_and, or_true, true_or, or_false, false_or, decide_true, decide_false, Bool.false_eq_true, Bool.true_eq_false, ↓cal_w (w1), w1, ↓cal_w (w2), w2, h11, h13, e5]
      · exact JJ_same hJ (fun k h1 h2 => by rw [ss_ne (by omega), ss_ne (by omega), ss_ne (by omega), ss_ne (by omega)]) (fun r _ _ => rfl)
      · exact (((hFr.ss (by omega) (by omega)).ss (by omega) (by omega)).ss (by omega) (by omega)).ss (by omega) (by omega)
      · intro i hi
        rw [ss_ne (by omega), ss_ne (by omega), ss_ne (by omega), ss_ne (by omega)]
      · cases q
        refine ⟨ss_same, ?_, ?_, ?_⟩
        · rw [ss_ne (by omega), ss_ne (by omega), ss_same]
        · rw [ss_ne (by omega), ss_same]
        · rw [ss_ne (by omega), ss_ne (by omega), ss_ne (by omega), ss_same]
/-- what aim finds -/
def AimP (N : Nat → Int32) (x y : Int32) (t : St) : Prop := ((isN y (nl N) = false ∨ isN x (nc N) = false ∨ ft N x.toNatClampNeg = false) ∧ t.1 12 = nI 1 ∧ t.1 13 = m2 ∧ t.1 14 = nI 0 ∧ t.1 15 = m1) ∨ ∃ c l, c < nc N ∧ l < nl N ∧ x = nI c ∧ y = nI l ∧ ft N c = true ∧ t.1 14 = nI (ltF N c (pg N)) ∧ (∀ i, i < pg N → t.2.1 25 i = nI (sc N c i)) ∧ ((abF N c l (pg N) = true ∧ t.1 12 = nI 2 ∧ t.1 13 = m2 ∧ t.1 15 = m1) ∨ (abF N c l (pg N) = false ∧ t.1 12 = nI 0 ∧ t.1 13 = fx m2 (fc N c l (tp N l)) ∧ t.1 15 = nI (en N c l) ∧ ∀ B, fc N c l (tp N l) ≠ 0 → bd N l (fc N c l (tp N l)) (tp N l) = some B → t.1 16 = nI (hd N l B) ∧ t.1 17 = nI B ∧ t.1 18 = nI (hin N (hd N l B) B)))
theorem d_aim {F : Nat} (hF : 300 < F) {σ : St} {N : Nat → Int32} (h : NN N) (j : JJ σ N) (x y : Int32) : ∃ t, f_X3_aim F σ x y = some t ∧ JJ t N ∧ Fr σ t ∧ t.1 11 = y ∧ AimP N x y t := by
  obtain ⟨b1, b2, b3, b4, b5, b6, b7, b8⟩ := NNb h
  generalize hu : ss (ss (ss (ss (ss σ 11 y) 13 m2) 14 (nI 0)) 15 m1) 12 (nI 1) = u
  have uJ : JJ u N := by
    rw [← hu]
    exact JJ_same j (fun k h1 h2 => by rw [ss_ne (by omega), ss_ne (by omega), ss_ne (by omega), ss_ne (by omega), ss_ne (by omega)]) (fun r _ _ => rfl)
  have uF : Fr σ u := by
    rw [← hu]
    exact (((((Fr.refl σ).ss (by omega) (by omega)).ss (by omega) (by omega)).ss (by omega) (by omega)).ss (by omega) (by omega)).ss (by omega) (by omega)
  have u11 : u.1 11 = y := by rw [← hu, ss_ne (by omega), ss_ne (by omega), ss_ne (by omega), ss_ne (by omega), ss_same]
  have u12 : u.1 12 = nI 1 := by rw [← hu, ss_same]
  have u13 : u.1 13 = m2 := by rw [← hu, ss_ne (by omega), ss_ne (by omega), ss_ne (by omega), ss_same]
  have u14 : u.1 14 = nI 0 := by rw [← hu, ss_ne (by omega), ss_ne (by omega), ss_same]
  have u15 : u.1 15 = m1 := by rw [← hu, ss_ne (by omega), ss_same]
  have e4 := (JJf h uJ).1
  unfold f_X3_aim
  cases c : isN y (nl N)
  · refine ⟨u, ?_, uJ, uF, u11, Or.inl ⟨Or.inl c, u12, u13, u14, u15⟩⟩
    simp (disch := omega) only [↓bnd_i, ↓cal_s, ↓cal_n, ↓cal2_s, ↓cal2_n, cal_s, cal2_s, ↓reduceIte, fa_lit, m1_lit, m2_lit, m1_lt, m2_lt, m1_eq, m2_eq, m1_le, m2_le, le_m1, le_m2, lt_m1, lt_m2, m12, m21, m1_m1, n_lt, n_le, n_eq, lt_t, lt_f, le_t, le_f, eq_t, eq_f, n_cl, inb_ok, n_add, pk_mul, pk_sub, n_rem, n_div, n_dec, n_mx, n_mn, eq_m1, eq_m2, ss_same, ss_ne, ss_r, ss_l, sr_f, sr_l, sr_same, sr_ne, sw_f, sw_l, sw_at, sw_ne, pk_us, pk_un, bI_t, bI_f, not_true_eq_false, not_false_eq_true, eq_self, and_true, true_and, and_false, false_and, or_true, true_or, or_false, false_or, decide_true, decide_false, Bool.false_eq_true, Bool.true_eq_false, hu]
    simp (disch := omega) only [↓bnd_i, ↓cal_s, ↓cal_n, ↓cal2_s, ↓cal2_n, cal_s, cal2_s, ↓reduceIte, fa_lit, m1_lit, m2_lit, m1_lt, m2_lt, m1_eq, m2_eq, m1_le, m2_le, le_m1, le_m2, lt_m1, lt_m2, m12, m21, m1_m1, n_lt, n_le, n_eq, lt_t, lt_f, le_t, le_f, eq_t, eq_f, n_cl, inb_ok, n_add, pk_mul, pk_sub, n_rem, n_div, n_dec, n_mx, n_mn, eq_m1, eq_m2, ss_same, ss_ne, ss_r, ss_l, sr_f, sr_l, sr_same, sr_ne, sw_f, sw_l, sw_at, sw_ne, pk_us, pk_un, bI_t, bI_f, not_true_eq_false, not_false_eq_true, eq_self, and_true, true_and, and_false, false_and, or_true, true_or, or_false, false_or, decide_true, decide_false, Bool.false_eq_true, Bool.true_eq_false, ↓cal_w (d_hasLine h.1 uJ.1 y), d_hasLine h.1 uJ.1 y, u11, c]
  · cases d : isN x (nc N)
    · refine ⟨u, ?_, uJ, uF, u11, Or.inl ⟨Or.inr (Or.inl d), u12, u13, u14, u15⟩⟩
      simp (disch := omega) only [↓bnd_i, ↓cal_s, ↓cal_n, ↓cal2_s, ↓cal2_n, cal_s, cal2_s, ↓reduceIte, fa_lit, m1_lit, m2_lit, m1_lt, m2_lt, m1_eq, m2_eq, m1_le, m2_le, le_m1, le_m2, lt_m1, lt_m2, m12, m21, m1_m1, n_lt, n_le, n_eq, lt_t, lt_f, le_t, le_f, eq_t, eq_f, n_cl, inb_ok, n_add, pk_mul, pk_sub, n_rem, n_div, n_dec, n_mx, n_mn, eq_m1, eq_m2, ss_same, ss_ne, ss_r, ss_l, sr_f, sr_l, sr_same, sr_ne, sw_f, sw_l, sw_at, sw_ne, pk_us, pk_un, bI_t, bI_f, not_true_eq_false, not_false_eq_true, eq_self, and_true, true_and, and_false, false_and, or_true, true_or, or_false, false_or, decide_true, decide_false, Bool.false_eq_true, Bool.true_eq_false, hu]
      simp (disch := omega) only [↓bnd_i, ↓cal_s, ↓cal_n, ↓cal2_s, ↓cal2_n, cal_s, cal2_s, ↓reduceIte, fa_lit, m1_lit, m2_lit, m1_lt, m2_lt, m1_eq, m2_eq, m1_le, m2_le, le_m1, le_m2, lt_m1, lt_m2, m12, m21, m1_m1, n_lt, n_le, n_eq, lt_t, lt_f, le_t, le_f, eq_t, eq_f, n_cl, inb_ok, n_add, pk_mul, pk_sub, n_rem, n_div, n_dec, n_mx, n_mn, eq_m1, eq_m2, ss_same, ss_ne, ss_r, ss_l, sr_f, sr_l, sr_same, sr_ne, sw_f, sw_l, sw_at, sw_ne, pk_us, pk_un, bI_t, bI_f, not_true_eq_false, not_false_eq_true, eq_self, and_true, true_and, and_false, false_and, or_true, true_or, or_false, false_or, decide_true, decide_false, Bool.false_eq_true, Bool.true_eq_false, ↓cal_w (d_hasLine h.1 uJ.1 y), d_hasLine h.1 uJ.1 y, ↓cal_w (d_isFitN h uJ (x := x) (y := nI (pg N)) d), d_isFitN h uJ (x := x) (y := nI (pg N)) d, u11, c, e4]
    · obtain ⟨l, hl, rfl⟩ := isN_e c (by omega)
      obtain ⟨a, ha, rfl⟩ := isN_e d (by omega)
      cases e : ft N a
      · refine ⟨u, ?_, uJ, uF, u11, Or.inl ⟨Or.inr (Or.inr (by rw [n_cl (by omega)]; exact e)), u12, u13, u14, u15⟩⟩
        simp (disch := omega) only [↓bnd_i, ↓cal_s, ↓cal_n, ↓cal2_s, ↓cal2_n, cal_s, cal2_s, ↓reduceIte, fa_lit, m1_lit, m2_lit, m1_lt, m2_lt, m1_eq, m2_eq, m1_le, m2_le, le_m1, le_m2, lt_m1, lt_m2, m12, m21, m1_m1, n_lt, n_le, n_eq, lt_t, lt_f, le_t, le_f, eq_t, eq_f, n_cl, inb_ok, n_add, pk_mul, pk_sub, n_rem, n_div, n_dec, n_mx, n_mn, eq_m1, eq_m2, ss_same, ss_ne, ss_r, ss_l, sr_f, sr_l, sr_same, sr_ne, sw_f, sw_l, sw_at, sw_ne, pk_us, pk_un, bI_t, bI_f, not_true_eq_false, not_false_eq_true, eq_self, and_true, true_and, and_false, false_and, or_true, true_or, or_false, false_or, decide_true, decide_false, Bool.false_eq_true, Bool.true_eq_false, hu]
        simp (disch := omega) only [↓bnd_i, ↓cal_s, ↓cal_n, ↓cal2_s, ↓cal2_n, cal_s, cal2_s, ↓reduceIte, fa_lit, m1_lit, m2_lit, m1_lt, m2_lt, m1_eq, m2_eq, m1_le, m2_le, le_m1, le_m2, lt_m1, lt_m2, m12, m21, m1_m1, n_lt, n_le, n_eq, lt_t, lt_f, le_t, le_f, eq_t, eq_f, n_cl, inb_ok, n_add, pk_mul, pk_sub, n_rem, n_div, n_dec, n_mx, n_mn, eq_m1, eq_m2, ss_same, ss_ne, ss_r, ss_l, sr_f, sr_l, sr_same, sr_ne, sw_f, sw_l, sw_at, sw_ne, pk_us, pk_un, bI_t, bI_f, not_true_eq_false, not_false_eq_true, eq_self, and_true, true_and, and_false, false_and, or_true, true_or, or_false, false_or, decide_true, decide_false, Bool.false_eq_true, Bool.true_eq_false, ↓cal_w (d_hasLine h.1 uJ.1 _), d_hasLine h.1 uJ.1 _, ↓cal_w (d_isFit (show 20 < F by omega) h uJ ha), d_isFit (show 20 < F by omega) h uJ ha, u11, c, e4, e]
      · obtain ⟨t, x1, x2, x3, x4, x5, x6⟩ := d_lookAtPages (F := F) (by omega) (σ := σ) h ha hl e F 0 u uJ uF u11 (by rw [u14]; rfl) (fun i hi => by omega) (by omega) (by omega)
        have x1' : f_X3_lookAtPages F u (nI a) = some (nI (if abF N a l (pg N) = true then 2 else 0), t) := x1
        cases e2 : abF N a l (pg N)
        · rw [e2] at x1'
          simp only [Bool.false_eq_true, if_false] at x1'
          have vJ : JJ (ss t 12 (nI 0)) N := JJ_same x2 (fun k h1 h2 => ss_ne (by omega)) (fun r _ _ => rfl)
          have v11 : (ss t 12 (nI 0)).1 11 = nI l := by rw [ss_ne (by omega), x6 11 (by omega)]; exact u11
          have w1 := d_firstChange (F := F) hF h vJ ha hl v11 x5
          generalize hv : ss (ss (ss t 12 (nI 0)) 13 (fx m2 (fc N a l (tp N l)))) 15 (nI (tp N l)) = v
          have wJ0 : JJ (ss (ss t 12 (nI 0)) 13 (fx m2 (fc N a l (tp N l)))) N := JJ_same vJ (fun k h1 h2 => ss_ne (by omega)) (fun r _ _ => rfl)
          have wJ : JJ v N := by rw [← hv]; exact JJ_same wJ0 (fun k h1 h2 => ss_ne (by omega)) (fun r _ _ => rfl)
          have wF : Fr σ v := by rw [← hv]; exact ((x3.ss (by omega) (by omega)).ss (by omega) (by omega)).ss (by omega) (by omega)
          have w11 : v.1 11 = nI l := by rw [← hv, ss_ne (by omega), ss_ne (by omega)]; exact v11
          have w12 : v.1 12 = nI 0 := by rw [← hv, ss_ne (by omega), ss_ne (by omega), ss_same]
          have w13 : v.1 13 = fx m2 (fc N a l (tp N l)) := by rw [← hv, ss_ne (by omega), ss_same]
          have w14 : v.1 14 = nI (ltF N a (pg N)) := by rw [← hv, ss_ne (by omega), ss_ne (by omega), ss_ne (by omega)]; exact x4
          have w15 : v.1 15 = nI (tp N l) := by rw [← hv, ss_same]
          have w25 : ∀ i, i < pg N → v.2.1 25 i = nI (sc N a i) := fun i hi => by rw [← hv]; exact x5 i hi
          have z11 : (ss (ss t 12 (nI 0)) 13 (fx m2 (fc N a l (tp N l)))).1 11 = nI l := by rw [ss_ne (by omega)]; exact v11
          have hfl := fc_le (N := N) (c := a) (l := l) (p := tp N l)
          have ht := (h.2.1.1 l hl).2
          have lp : ∃ s, f_X3_lookAtPieces F v = some s ∧ JJ s N ∧ Fr σ s ∧ s.2 = v.2 ∧ (∀ i, i < 15 → s.1 i = v.1 i) ∧ s.1 15 = nI (en N a l) ∧ ∀ B, fc N a l (tp N l) ≠ 0 → bd N l (fc N a l (tp N l)) (tp N l) = some B → s.1 16 = nI (hd N l B) ∧ s.1 17 = nI B ∧ s.1 18 = nI (hin N (hd N l B) B) := by
            unfold f_X3_lookAtPieces en
            by_cases f0 : fc N a l (tp N l) = 0
            · rw [fx_0 f0] at w13
              rw [if_pos f0]
              refine ⟨v, ?_, wJ, wF, rfl, fun _ _ => rfl, w15, fun B q => absurd f0 q⟩
              simp (disch := omega) only [↓bnd_i, ↓cal_s, ↓cal_n, ↓cal2_s, ↓cal2_n, cal_s, cal2_s, ↓reduceIte, fa_lit, m1_lit, m2_lit, m1_lt, m2_lt, m1_eq, m2_eq, m1_le, m2_le, le_m1, le_m2, lt_m1, lt_m2, m12, m21, m1_m1, n_lt, n_le, n_eq, lt_t, lt_f, le_t, le_f, eq_t, eq_f, n_cl, inb_ok, n_add, pk_mul, pk_sub, n_rem, n_div, n_dec, n_mx, n_mn, eq_m1, eq_m2, ss_same, ss_ne, ss_r, ss_l, sr_f, sr_l, sr_same, sr_ne, sw_f, sw_l, sw_at, sw_ne, pk_us, pk_un, bI_t, bI_f, not_true_eq_false, not_false_eq_true, eq_self, and_true, true_and, and_false, false_and, or_true, true_or, or_false, false_or, decide_true, decide_false, Bool.false_eq_true, Bool.true_eq_false, w13]
            · rw [fx_s f0] at w13
              rw [if_neg f0]
              have hm2 : (fc N a l (tp N l) - 1) / wd N ≤ (tp N l - 1) / wd N := Nat.div_le_div_right (by omega)
              have hd120 := div120 (p := tp N l) (w := wd N) (by omega) b3 (by omega)
              have hq0 := Nat.zero_le ((fc N a l (tp N l) - 1) / wd N)
              obtain ⟨s, y1, y2, y3, y4, y5, y6, y7⟩ := d_lookAtPieces (F := F) (σ := σ) hF h hl (show 1 ≤ fc N a l (tp N l) by omega) hfl ((tp N l - 1) / wd N + 1 - (fc N a l (tp N l) - 1) / wd N) ((fc N a l (tp N l) - 1) / wd N) F v wJ wF w11 w13 (by omega) (by omega)
              refine ⟨s, ?_, y2, y3, y4, y5, ?_, fun B _ q => (y7 B q).2⟩
              · simp (disch := omega) only [↓bnd_i, ↓cal_s, ↓cal_n, ↓cal2_s, ↓cal2_n, cal_s, cal2_s, ↓reduceIte, fa_lit, m1_lit, m2_lit, m1_lt, m2_lt, m1_eq, m2_eq, m1_le, m2_le, le_m1, le_m2, lt_m1, lt_m2, m12, m21, m1_m1, n_lt, n_le, n_eq, lt_t, lt_f, le_t, le_f, eq_t, eq_f, n_cl, inb_ok, n_add, pk_mul, pk_sub, n_rem, n_div, n_dec, n_mx, n_mn, eq_m1, eq_m2, ss_same, ss_ne, ss_r, ss_l, sr_f, sr_l, sr_same, sr_ne, sw_f, sw_l, sw_at, sw_ne, pk_us, pk_un, bI_t, bI_f, not_true_eq_false, not_false_eq_true, eq_self, and_true, true_and, and_false, false_and, or_true, true_or, or_false, false_or, decide_true, decide_false, Bool.false_eq_true, Bool.true_eq_false, ↓cal_w (d_pieceHolding h wJ (show 1 ≤ tp N l by omega) (show tp N l < 2 ^ 31 by omega)), d_pieceHolding h wJ (show 1 ≤ tp N l by omega) (show tp N l < 2 ^ 31 by omega), ↓cal_w (d_pieceHolding h wJ (show 1 ≤ fc N a l (tp N l) by omega) (show fc N a l (tp N l) < 2 ^ 31 by omega)), d_pieceHolding h wJ (show 1 ≤ fc N a l (tp N l) by omega) (show fc N a l (tp N l) < 2 ^ 31 by omega), w13, w15]
                exact y1
              · cases q : bd N l (fc N a l (tp N l)) (tp N l) with
                | none => rw [y6 q]; exact w15
                | some B => exact (y7 B q).1
          obtain ⟨s, y1, y2, y3, y4, y5, y6, y7⟩ := lp
          refine ⟨s, ?_, y2, y3, (y5 11 (by omega)).trans w11, Or.inr ⟨a, l, ha, hl, rfl, rfl, e, (y5 14 (by omega)).trans w14, fun i hi => by rw [y4]; exact w25 i hi, Or.inr ⟨e2, (y5 12 (by omega)).trans w12, (y5 13 (by omega)).trans w13, y6, y7⟩⟩⟩
          simp (disch := omega) only [↓bnd_i, ↓cal_s, ↓cal_n, ↓cal2_s, ↓cal2_n, cal_s, cal2_s, ↓reduceIte, fa_lit, m1_lit, m2_lit, m1_lt, m2_lt, m1_eq, m2_eq, m1_le, m2_le, le_m1, le_m2, lt_m1, lt_m2, m12, m21, m1_m1, n_lt, n_le, n_eq, lt_t, lt_f, le_t, le_f, eq_t, eq_f, n_cl, inb_ok, n_add, pk_mul, pk_sub, n_rem, n_div, n_dec, n_mx, n_mn, eq_m1, eq_m2, ss_same, ss_ne, ss_r, ss_l, sr_f, sr_l, sr_same, sr_ne, sw_f, sw_l, sw_at, sw_ne, pk_us, pk_un, bI_t, bI_f, not_true_eq_false, not_false_eq_true, eq_self, and_true, true_and, and_false, false_and, or_true, true_or, or_false, false_or, decide_true, decide_false, Bool.false_eq_true, Bool.true_eq_false, hu]
          simp (disch := omega) only [↓bnd_i, ↓cal_s, ↓cal_n, ↓cal2_s, ↓cal2_n, cal_s, cal2_s, ↓reduceIte, fa_lit, m1_lit, m2_lit, m1_lt, m2_lt, m1_eq, m2_eq, m1_le, m2_le, le_m1, le_m2, lt_m1, lt_m2, m12, m21, m1_m1, n_lt, n_le, n_eq, lt_t, lt_f, le_t, le_f, eq_t, eq_f, n_cl, inb_ok, n_add, pk_mul, pk_sub, n_rem, n_div, n_dec, n_mx, n_mn, eq_m1, eq_m2, ss_same, ss_ne, ss_r, ss_l, sr_f, sr_l, sr_same, sr_ne, sw_f, sw_l, sw_at, sw_ne, pk_us, pk_un, bI_t, bI_f, not_true_eq_false, not_false_eq_true, eq_self, and_true, true_and, and_false, false_and, or_true, true_or, or_false, false_or, decide_true, decide_false, Bool.false_eq_true, Bool.true_eq_false, ↓cal_w (d_hasLine h.1 uJ.1 _), d_hasLine h.1 uJ.1 _, ↓cal_w (d_isFit (show 20 < F by omega) h uJ ha), d_isFit (show 20 < F by omega) h uJ ha, ↓cal2_w (x1'), x1', u11, c, e4, e]
          simp (disch := omega) only [↓bnd_i, ↓cal_s, ↓cal_n, ↓cal2_s, ↓cal2_n, cal_s, cal2_s, ↓reduceIte, fa_lit, m1_lit, m2_lit, m1_lt, m2_lt, m1_eq, m2_eq, m1_le, m2_le, le_m1, le_m2, lt_m1, lt_m2, m12, m21, m1_m1, n_lt, n_le, n_eq, lt_t, lt_f, le_t, le_f, eq_t, eq_f, n_cl, inb_ok, n_add, pk_mul, pk_sub, n_rem, n_div, n_dec, n_mx, n_mn, eq_m1, eq_m2, ss_same, ss_ne, ss_r, ss_l, sr_f, sr_l, sr_same, sr_ne, sw_f, sw_l, sw_at, sw_ne, pk_us, pk_un, bI_t, bI_f, not_true_eq_false, not_false_eq_true, eq_self, and_true, true_and, and_false, false_and, or_true, true_or, or_false, false_or, decide_true, decide_false, Bool.false_eq_true, Bool.true_eq_false, ↓cal_w (w1), w1]
          simp (disch := omega) only [↓bnd_i, ↓cal_s, ↓cal_n, ↓cal2_s, ↓cal2_n, cal_s, cal2_s, ↓reduceIte, fa_lit, m1_lit, m2_lit, m1_lt, m2_lt, m1_eq, m2_eq, m1_le, m2_le, le_m1, le_m2, lt_m1, lt_m2, m12, m21, m1_m1, n_lt, n_le, n_eq, lt_t, lt_f, le_t, le_f, eq_t, eq_f, n_cl, inb_ok, n_add, pk_mul, pk_sub, n_rem, n_div, n_dec, n_mx, n_mn, eq_m1, eq_m2, ss_same, ss_ne, ss_r, ss_l, sr_f, sr_l, sr_same, sr_ne, sw_f, sw_l, sw_at, sw_ne, pk_us, pk_un, bI_t, bI_f, not_true_eq_false, not_false_eq_true, eq_self, and_true, true_and, and_false, false_and, or_true, true_or, or_false, false_or, decide_true, decide_false, Bool.false_eq_true, Bool.true_eq_false, ↓cal_w (d_tipOf h wJ0 hl), d_tipOf h wJ0 hl, show t.1 11 = nI l from (x6 11 (by omega)).trans u11]
          simp (disch := omega) only [↓bnd_i, ↓cal_s, ↓cal_n, ↓cal2_s, ↓cal2_n, cal_s, cal2_s, ↓reduceIte, fa_lit, m1_lit, m2_lit, m1_lt, m2_lt, m1_eq, m2_eq, m1_le, m2_le, le_m1, le_m2, lt_m1, lt_m2, m12, m21, m1_m1, n_lt, n_le, n_eq, lt_t, lt_f, le_t, le_f, eq_t, eq_f, n_cl, inb_ok, n_add, pk_mul, pk_sub, n_rem, n_div, n_dec, n_mx, n_mn, eq_m1, eq_m2, ss_same, ss_ne, ss_r, ss_l, sr_f, sr_l, sr_same, sr_ne, sw_f, sw_l, sw_at, sw_ne, pk_us, pk_un, bI_t, bI_f, not_true_eq_false, not_false_eq_true, eq_self, and_true, true_and, and_false, false_and, or_true, true_or, or_false, false_or, decide_true, decide_false, Bool.false_eq_true, Bool.true_eq_false, ↓cal_w (y1), y1, hv]
        · rw [e2] at x1'
          simp only [if_true] at x1'
          refine ⟨ss t 12 (nI 2), ?_, JJ_same x2 (fun k h1 h2 => ss_ne (by omega)) (fun r _ _ => rfl), x3.ss (by omega) (by omega), ?_, Or.inr ⟨a, l, ha, hl, rfl, rfl, e, ?_, x5, Or.inl ⟨e2, ss_same, ?_, ?_⟩⟩⟩
          · simp (disch := omega) only [↓bnd_i, ↓cal_s, ↓cal_n, ↓cal2_s, ↓cal2_n, cal_s, cal2_s, ↓reduceIte, fa_lit, m1_lit, m2_lit, m1_lt, m2_lt, m1_eq, m2_eq, m1_le, m2_le, le_m1, le_m2, lt_m1, lt_m2, m12, m21, m1_m1, n_lt, n_le, n_eq, lt_t, lt_f, le_t, le_f, eq_t, eq_f, n_cl, inb_ok, n_add, pk_mul, pk_sub, n_rem, n_div, n_dec, n_mx, n_mn, eq_m1, eq_m2, ss_same, ss_ne, ss_r, ss_l, sr_f, sr_l, sr_same, sr_ne, sw_f, sw_l, sw_at, sw_ne, pk_us, pk_un, bI_t, bI_f, not_true_eq_false, not_false_eq_true, eq_self, and_true, true_and, and_false, false_and, or_true, true_or, or_false, false_or, decide_true, decide_false, Bool.false_eq_true, Bool.true_eq_false, hu]
            simp (disch := omega) only [↓bnd_i, ↓cal_s, ↓cal_n, ↓cal2_s, ↓cal2_n, cal_s, cal2_s, ↓reduceIte, fa_lit, m1_lit, m2_lit, m1_lt, m2_lt, m1_eq, m2_eq, m1_le, m2_le, le_m1, le_m2, lt_m1, lt_m2, m12, m21, m1_m1, n_lt, n_le, n_eq, lt_t, lt_f, le_t, le_f, eq_t, eq_f, n_cl, inb_ok, n_add, pk_mul, pk_sub, n_rem, n_div, n_dec, n_mx, n_mn, eq_m1, eq_m2, ss_same, ss_ne, ss_r, ss_l, sr_f, sr_l, sr_same, sr_ne, sw_f, sw_l, sw_at, sw_ne, pk_us, pk_un, bI_t, bI_f, not_true_eq_false, not_false_eq_true, eq_self, and_true, true_and, and_false, false_and, or_true, true_or, or_false, false_or, decide_true, decide_false, Bool.false_eq_true, Bool.true_eq_false, ↓cal_w (d_hasLine h.1 uJ.1 _), d_hasLine h.1 uJ.1 _, ↓cal_w (d_isFit (show 20 < F by omega) h uJ ha), d_isFit (show 20 < F by omega) h uJ ha, ↓cal2_w (x1'), x1', u11, c, e4, e]
          · rw [ss_ne (by omega), x6 11 (by omega)]; exact u11
          · rw [ss_ne (by omega)]; exact x4
          · rw [ss_ne (by omega), x6 13 (by omega)]; exact u13
          · rw [ss_ne (by omega), x6 15 (by omega)]; exact u15
theorem en_le {N : Nat → Int32} (h : NN N) {c l : Nat} : en N c l ≤ tp N l := by
  obtain ⟨b1, b2, b3, b4, b5, b6, b7, b8⟩ := NNb h
  have hfl := fc_le (N := N) (c := c) (l := l) (p := tp N l)
  unfold en
  split
  · exact Nat.le_refl _
  · next f0 =>
    cases d : bd N l (fc N c l (tp N l)) (tp N l) with
    | none => exact Nat.le_refl _
    | some B =>
      obtain ⟨x1, x2, -, -⟩ := bdF_some d
      have hm2 : (fc N c l (tp N l) - 1) / wd N ≤ (tp N l - 1) / wd N := Nat.div_le_div_right (by omega)
      have := (Nat.le_div_iff_mul_le (x := B) (y := tp N l - 1) (show 0 < wd N by omega)).mp (by omega)
      dsimp only
      omega
/-- the desk's outcome is the model's -/
theorem d_outcomeAt {F : Nat} {t : St} {N : Nat → Int32} (h : NN N) (j : JJ t N) {x y : Int32} (h11 : t.1 11 = y) (A : AimP N x y t) (z : Int32) : f_X3_outcomeAt F t z = some (nI (ocx N x y z)) := by
  obtain ⟨b1, b2, b3, b4, b5, b6, b7, b8⟩ := NNb h
  unfold f_X3_outcomeAt
  cases d : hasP N y z
  · have : ocx N x y z = 1 := by unfold ocx; rw [d, Bool.and_false]; rfl
    rw [this]
    simp (disch := omega) only [↓bnd_i, ↓cal_s, ↓cal_n, ↓cal2_s, ↓cal2_n, cal_s, cal2_s, ↓reduceIte, fa_lit, m1_lit, m2_lit, m1_lt, m2_lt, m1_eq, m2_eq, m1_le, m2_le, le_m1, le_m2, lt_m1, lt_m2, m12, m21, m1_m1, n_lt, n_le, n_eq, lt_t, lt_f, le_t, le_f, eq_t, eq_f, n_cl, inb_ok, n_add, pk_mul, pk_sub, n_rem, n_div, n_dec, n_mx, n_mn, eq_m1, eq_m2, ss_same, ss_ne, ss_r, ss_l, sr_f, sr_l, sr_same, sr_ne, sw_f, sw_l, sw_at, sw_ne, pk_us, pk_un, bI_t, bI_f, not_true_eq_false, not_false_eq_true, eq_self, and_true, true_and, and_false, false_and, or_true, true_or, or_false, false_or, decide_true, decide_false, Bool.false_eq_true, Bool.true_eq_false, ↓cal_w (d_hasPlace h j y z), d_hasPlace h j y z, h11, d]
  · obtain ⟨l, p, hl, hp, ht, rfl, rfl⟩ := hasP_e h d
    rcases A with ⟨A1, A2, A3, A4, A5⟩ | ⟨c, l', hc, hl', rfl, e, hf, A1, A2, A3⟩
    · have : ocx N x (nI l) (nI p) = 1 := by
        unfold ocx
        rcases A1 with q | q | q
        · rw [isN_t hl (by omega)] at q; cases q
        · rw [q]; rfl
        · rw [q]; simp
      rw [this]
      simp (disch := omega) only [↓bnd_i, ↓cal_s, ↓cal_n, ↓cal2_s, ↓cal2_n, cal_s, cal2_s, ↓reduceIte, fa_lit, m1_lit, m2_lit, m1_lt, m2_lt, m1_eq, m2_eq, m1_le, m2_le, le_m1, le_m2, lt_m1, lt_m2, m12, m21, m1_m1, n_lt, n_le, n_eq, lt_t, lt_f, le_t, le_f, eq_t, eq_f, n_cl, inb_ok, n_add, pk_mul, pk_sub, n_rem, n_div, n_dec, n_mx, n_mn, eq_m1, eq_m2, ss_same, ss_ne, ss_r, ss_l, sr_f, sr_l, sr_same, sr_ne, sw_f, sw_l, sw_at, sw_ne, pk_us, pk_un, bI_t, bI_f, not_true_eq_false, not_false_eq_true, eq_self, and_true, true_and, and_false, false_and, or_true, true_or, or_false, false_or, decide_true, decide_false, Bool.false_eq_true, Bool.true_eq_false, ↓cal_w (d_hasPlace h j _ _), d_hasPlace h j _ _, h11, d, A2]
    · have : l = l' := by rw [n_eq (by omega) (by omega)] at e; exact e
      subst this
      rw [ocx_n h hc hl hp, hf, if_pos rfl]
      unfold oc
      have hlt := ltF_le h hc (pg N) (by omega)
      rcases A3 with ⟨q1, q2, q3, q4⟩ | ⟨q1, q2, q3, q4, q5⟩
      · rw [q1, if_pos rfl]
        simp (disch := omega) only [↓bnd_i, ↓cal_s, ↓cal_n, ↓cal2_s, ↓cal2_n, cal_s, cal2_s, ↓reduceIte, fa_lit, m1_lit, m2_lit, m1_lt, m2_lt, m1_eq, m2_eq, m1_le, m2_le, le_m1, le_m2, lt_m1, lt_m2, m12, m21, m1_m1, n_lt, n_le, n_eq, lt_t, lt_f, le_t, le_f, eq_t, eq_f, n_cl, inb_ok, n_add, pk_mul, pk_sub, n_rem, n_div, n_dec, n_mx, n_mn, eq_m1, eq_m2, ss_same, ss_ne, ss_r, ss_l, sr_f, sr_l, sr_same, sr_ne, sw_f, sw_l, sw_at, sw_ne, pk_us, pk_un, bI_t, bI_f, not_true_eq_false, not_false_eq_true, eq_self, and_true, true_and, and_false, false_and, or_true, true_or, or_false, false_or, decide_true, decide_false, Bool.false_eq_true, Bool.true_eq_false, ↓cal_w (d_hasPlace h j _ _), d_hasPlace h j _ _, h11, d, q2]
      · rw [q1]
        simp only [Bool.false_eq_true, if_false]
        have hen := en_le h (c := c) (l := l)
        by_cases r : p < ltF N c (pg N)
        · rw [if_pos r]
          simp (disch := omega) only [↓bnd_i, ↓cal_s, ↓cal_n, ↓cal2_s, ↓cal2_n, cal_s, cal2_s, ↓reduceIte, fa_lit, m1_lit, m2_lit, m1_lt, m2_lt, m1_eq, m2_eq, m1_le, m2_le, le_m1, le_m2, lt_m1, lt_m2, m12, m21, m1_m1, n_lt, n_le, n_eq, lt_t, lt_f, le_t, le_f, eq_t, eq_f, n_cl, inb_ok, n_add, pk_mul, pk_sub, n_rem, n_div, n_dec, n_mx, n_mn, eq_m1, eq_m2, ss_same, ss_ne, ss_r, ss_l, sr_f, sr_l, sr_same, sr_ne, sw_f, sw_l, sw_at, sw_ne, pk_us, pk_un, bI_t, bI_f, not_true_eq_false, not_false_eq_true, eq_self, and_true, true_and, and_false, false_and, or_true, true_or, or_false, false_or, decide_true, decide_false, Bool.false_eq_true, Bool.true_eq_false, ↓cal_w (d_hasPlace h j _ _), d_hasPlace h j _ _, h11, d, q2, A1]
        · rw [if_neg r]
          have o := oc3_en h (c := c) (l := l) hp
          by_cases s : p ≤ en N c l
          · rw [if_pos s] at o
            rw [o]
            simp (disch := omega) only [↓bnd_i, ↓cal_s, ↓cal_n, ↓cal2_s, ↓cal2_n, cal_s, cal2_s, ↓reduceIte, fa_lit, m1_lit, m2_lit, m1_lt, m2_lt, m1_eq, m2_eq, m1_le, m2_le, le_m1, le_m2, lt_m1, lt_m2, m12, m21, m1_m1, n_lt, n_le, n_eq, lt_t, lt_f, le_t, le_f, eq_t, eq_f, n_cl, inb_ok, n_add, pk_mul, pk_sub, n_rem, n_div, n_dec, n_mx, n_mn, eq_m1, eq_m2, ss_same, ss_ne, ss_r, ss_l, sr_f, sr_l, sr_same, sr_ne, sw_f, sw_l, sw_at, sw_ne, pk_us, pk_un, bI_t, bI_f, not_true_eq_false, not_false_eq_true, eq_self, and_true, true_and, and_false, false_and, or_true, true_or, or_false, false_or, decide_true, decide_false, Bool.false_eq_true, Bool.true_eq_false, ↓cal_w (d_hasPlace h j _ _), d_hasPlace h j _ _, h11, d, q2, A1, q4]
          · rw [if_neg s] at o
            obtain ⟨o1, o2, B, o3, o4, o5, o6⟩ := o
            rw [o5]
            rw [o2] at o1
            have q6 := (q5 B o1 o4).2.2
            simp (disch := omega) only [↓bnd_i, ↓cal_s, ↓cal_n, ↓cal2_s, ↓cal2_n, cal_s, cal2_s, ↓reduceIte, fa_lit, m1_lit, m2_lit, m1_lt, m2_lt, m1_eq, m2_eq, m1_le, m2_le, le_m1, le_m2, lt_m1, lt_m2, m12, m21, m1_m1, n_lt, n_le, n_eq, lt_t, lt_f, le_t, le_f, eq_t, eq_f, n_cl, inb_ok, n_add, pk_mul, pk_sub, n_rem, n_div, n_dec, n_mx, n_mn, eq_m1, eq_m2, ss_same, ss_ne, ss_r, ss_l, sr_f, sr_l, sr_same, sr_ne, sw_f, sw_l, sw_at, sw_ne, pk_us, pk_un, bI_t, bI_f, not_true_eq_false, not_false_eq_true, eq_self, and_true, true_and, and_false, false_and, or_true, true_or, or_false, false_or, decide_true, decide_false, Bool.false_eq_true, Bool.true_eq_false, ↓cal_w (d_hasPlace h j _ _), d_hasPlace h j _ _, h11, d, q2, A1, q4, q6]
/-- aim and comesOut leave all that counts as it was -/
theorem opA {σ τ σ' τ' : St} (C : Core σ τ) (j : JJ σ' (nw τ)) (f : Fr σ σ') (g : FrM τ τ') (e : nw τ' = nw τ) (r : Int32) : Op σ τ (some (r, σ')) (some (r, τ')) := ⟨r, σ', τ', rfl, rfl, by unfold Core; rw [e]; exact ⟨C.1, j⟩, f, g, by rw [e]⟩
theorem op_would {F : Nat} (hF : 300 < F) {σ τ : St} (C : Core σ τ) (x y z : Int32) : Op σ τ (f_X7_would F σ x y z) (f_X8_would F τ x y z) := by
  obtain ⟨t, a1, a2, a3, a4, a5⟩ := d_aim (F := F) hF C.1 C.2 x y
  obtain ⟨u, c1, c2, c3, c4⟩ := t_comesOut (F := F) hF C.1 x y z
  unfold f_X7_would f_X8_would
  simp (disch := omega) only [↓bnd_i, ↓cal_s, ↓cal_n, ↓cal2_s, ↓cal2_n, cal_s, cal2_s, ↓reduceIte, fa_lit, m1_lit, m2_lit, m1_lt, m2_lt, m1_eq, m2_eq, m1_le, m2_le, le_m1, le_m2, lt_m1, lt_m2, m12, m21, m1_m1, n_lt, n_le, n_eq, lt_t, lt_f, le_t, le_f, eq_t, eq_f, n_cl, inb_ok, n_add, pk_mul, pk_sub, n_rem, n_div, n_dec, n_mx, n_mn, eq_m1, eq_m2, ss_same, ss_ne, ss_r, ss_l, sr_f, sr_l, sr_same, sr_ne, sw_f, sw_l, sw_at, sw_ne, pk_us, pk_un, bI_t, bI_f, not_true_eq_false, not_false_eq_true, eq_self, and_true, true_and, and_false, false_and, or_true, true_or, or_false, false_or, decide_true, decide_false, Bool.false_eq_true, Bool.true_eq_false, ↓cal_w (a1), a1, ↓cal_w (d_outcomeAt C.1 a2 a4 a5 z), d_outcomeAt C.1 a2 a4 a5 z, ↓cal2_w (c1), c1]
  exact opA C a2 a3 c2 c3 _
