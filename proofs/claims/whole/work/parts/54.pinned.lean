/-! PURE: pinned, spare -/
/-- the piece from which on a copy needs pieces for where it goes on -/
def pin (N : Nat → Int32) (c : Nat) : Option Nat := if nd (ocx N (nI c) (nI (nl N - 1)) (nI (tp N (nl N - 1)))) = true ∧ fc N c (nl N - 1) (tp N (nl N - 1)) ≠ 0 then some ((fc N c (nl N - 1) (tp N (nl N - 1)) - 1) / wd N) else none
/-- how many pieces the line that goes on has up to now -/
def pE (N : Nat → Int32) : Nat := if tp N (nl N - 1) = 0 then 0 else (tp N (nl N - 1) - 1) / wd N + 1
def pb (N : Nat → Int32) (k c : Nat) : Bool := match pin N c with
  | none => false
  | some f => decide (f ≤ k ∧ k < pE N)
theorem pb_n {N : Nat → Int32} {k c : Nat} (e : pin N c = none) : pb N k c = false := by unfold pb; rw [e]
theorem pb_s {N : Nat → Int32} {k c f : Nat} (e : pin N c = some f) : pb N k c = decide (f ≤ k ∧ k < pE N) := by unfold pb; rw [e]
theorem pin_s {N : Nat → Int32} {c f : Nat} (h : NN N) (e : pin N c = some f) : nd (ocx N (nI c) (nI (nl N - 1)) (nI (tp N (nl N - 1)))) = true ∧ fc N c (nl N - 1) (tp N (nl N - 1)) ≠ 0 ∧ f = (fc N c (nl N - 1) (tp N (nl N - 1)) - 1) / wd N ∧ 1 ≤ tp N (nl N - 1) ∧ f < 120 := by
  obtain ⟨b1, b2, b3, b4, b5, b6, b7, b8⟩ := NNb h
  unfold pin at e
  by_cases q : nd (ocx N (nI c) (nI (nl N - 1)) (nI (tp N (nl N - 1)))) = true ∧ fc N c (nl N - 1) (tp N (nl N - 1)) ≠ 0
  · rw [if_pos q] at e
    have hf := fc_le (N := N) (c := c) (l := nl N - 1) (p := tp N (nl N - 1))
    have ht := (h.2.1.1 (nl N - 1) (by omega)).2
    have := q.2
    cases e
    exact ⟨q.1, q.2, rfl, by omega, div120 (by omega) b3 (by omega)⟩
  · rw [if_neg q] at e; cases e
theorem gd_of {N : Nat → Int32} (h : NN N) {c l p : Nat} (hc : c < nc N) (hl : l < nl N) (hp : p ≤ tp N l) (e : nd (ocx N (nI c) (nI l) (nI p)) = true) : gd N c l p := by
  obtain ⟨b1, b2, b3, b4, b5, b6, b7, b8⟩ := NNb h
  obtain ⟨c', l', p', e1, e2, e3, g⟩ := nd_gd h e
  have hg := g
  obtain ⟨g1, g2, g3, -⟩ := hg
  have ht := (h.2.1.1 l' g2).2
  have ht2 := (h.2.1.1 l hl).2
  rw [n_eq (by omega) (by omega)] at e1 e2 e3
  subst e1 e2 e3
  exact g
theorem d_firstPinnedBy {F : Nat} (hF : 300 < F) {σ : St} {N : Nat → Int32} (h : NN N) (j : JJ σ N) {c : Nat} (hc : c < nc N) : ∃ t, f_X7_firstPinnedBy F σ (nI c) = some (wX (pin N c), t) ∧ JJ t N ∧ Fr σ t := by
  obtain ⟨b1, b2, b3, b4, b5, b6, b7, b8⟩ := NNb h
  have hg : nl N - 1 < nl N := by omega
  have ht := (h.2.1.1 (nl N - 1) hg).2
  obtain ⟨t, a1, a2, a3, a4, a5⟩ := d_aim (F := F) hF h j (nI c) (nI (nl N - 1))
  have w1 := d_isOnTheWay (F := F) h a2 a4 a5 (nI (tp N (nl N - 1)))
  refine ⟨t, ?_, a2, a3⟩
  unfold f_X7_firstPinnedBy pin
  cases d : nd (ocx N (nI c) (nI (nl N - 1)) (nI (tp N (nl N - 1))))
  · rw [d] at w1
    rw [if_neg (fun q => by cases q.1)]
    simp (disch := omega) only [↓bnd_i, ↓cal_s, ↓cal_n, ↓cal2_s, ↓cal2_n, cal_s, cal2_s, ↓reduceIte, fa_lit, m1_lit, m2_lit, m1_lt, m2_lt, m1_eq, m2_eq, m1_le, m2_le, le_m1, le_m2, lt_m1, lt_m2, m12, m21, m1_m1, n_lt, n_le, n_eq, lt_t, lt_f, le_t, le_f, eq_t, eq_f, n_cl, inb_ok, n_add, pk_mul, pk_sub, n_rem, n_div, n_dec, n_mx, n_mn, eq_m1, eq_m2, ss_same, ss_ne, ss_r, ss_l, sr_f, sr_l, sr_same, sr_ne, sw_f, sw_l, sw_at, sw_ne, pk_us, pk_un, bI_t, bI_f, not_true_eq_false, not_false_eq_true, eq_self, and_true, true_and, and_false, false_and, or_true, true_or, or_false, false_or, decide_true, decide_false, Bool.false_eq_true, Bool.true_eq_false, ↓cal_w (d_now h.1 j.1), d_now h.1 j.1, ↓cal_w (d_going h j), d_going h j, ↓cal_w (a1), a1, ↓cal_w (w1), w1, wX]
  · rw [d] at w1
    have g := gd_of h hc hg (Nat.le_refl _) d
    have w2 := d_neededTo (F := F) h g a5
    obtain ⟨q1, q2, q3, q4, q5, q6⟩ := aim_gd h g a5
    have hf := fc_le (N := N) (c := c) (l := nl N - 1) (p := tp N (nl N - 1))
    unfold ned at w2
    by_cases f0 : fc N c (nl N - 1) (tp N (nl N - 1)) = 0
    · rw [if_pos f0] at w2
      rw [if_neg (fun q => q.2 f0)]
      simp (disch := omega) only [↓bnd_i, ↓cal_s, ↓cal_n, ↓cal2_s, ↓cal2_n, cal_s, cal2_s, ↓reduceIte, fa_lit, m1_lit, m2_lit, m1_lt, m2_lt, m1_eq, m2_eq, m1_le, m2_le, le_m1, le_m2, lt_m1, lt_m2, m12, m21, m1_m1, n_lt, n_le, n_eq, lt_t, lt_f, le_t, le_f, eq_t, eq_f, n_cl, inb_ok, n_add, pk_mul, pk_sub, n_rem, n_div, n_dec, n_mx, n_mn, eq_m1, eq_m2, ss_same, ss_ne, ss_r, ss_l, sr_f, sr_l, sr_same, sr_ne, sw_f, sw_l, sw_at, sw_ne, pk_us, pk_un, bI_t, bI_f, not_true_eq_false, not_false_eq_true, eq_self, and_true, true_and, and_false, false_and, or_true, true_or, or_false, false_or, decide_true, decide_false, Bool.false_eq_true, Bool.true_eq_false, ↓cal_w (d_now h.1 j.1), d_now h.1 j.1, ↓cal_w (d_going h j), d_going h j, ↓cal_w (a1), a1, ↓cal_w (w1), w1, ↓cal_w (w2), w2, wX]
    · rw [if_neg f0] at w2
      rw [fx_s f0] at q2
      rw [if_pos ⟨rfl, f0⟩]
      simp (disch := omega) only [↓bnd_i, ↓cal_s, ↓cal_n, ↓cal2_s, ↓cal2_n, cal_s, cal2_s, ↓reduceIte, fa_lit, m1_lit, m2_lit, m1_lt, m2_lt, m1_eq, m2_eq, m1_le, m2_le, le_m1, le_m2, lt_m1, lt_m2, m12, m21, m1_m1, n_lt, n_le, n_eq, lt_t, lt_f, le_t, le_f, eq_t, eq_f, n_cl, inb_ok, n_add, pk_mul, pk_sub, n_rem, n_div, n_dec, n_mx, n_mn, eq_m1, eq_m2, ss_same, ss_ne, ss_r, ss_l, sr_f, sr_l, sr_same, sr_ne, sw_f, sw_l, sw_at, sw_ne, pk_us, pk_un, bI_t, bI_f, not_true_eq_false, not_false_eq_true, eq_self, and_true, true_and, and_false, false_and, or_true, true_or, or_false, false_or, decide_true, decide_false, Bool.false_eq_true, Bool.true_eq_false, ↓cal_w (d_now h.1 j.1), d_now h.1 j.1, ↓cal_w (d_going h j), d_going h j, ↓cal_w (a1), a1, ↓cal_w (w1), w1, ↓cal_w (w2), w2, ↓cal_w (d_pieceHolding h a2 (show 1 ≤ fc N c (nl N - 1) (tp N (nl N - 1)) by omega) (by omega)), d_pieceHolding h a2 (show 1 ≤ fc N c (nl N - 1) (tp N (nl N - 1)) by omega) (by omega), wX, q2]
theorem d_pinnedL {F : Nat} (hF : 300 < F) {N : Nat → Int32} (h : NN N) {k : Nat} (hk : k < 120) {σ : St} : ∀ (n c : Nat) (t : St), JJ t N → Fr σ t → c ≤ nc N → nc N - c < n → ∃ t', f_X7_pinned_40 F n t (nI k) (nI (bs (pb N k) c)) (nI c) = some (nI (bs (pb N k) (nc N)), t') ∧ JJ t' N ∧ Fr σ t' := by
  obtain ⟨b1, b2, b3, b4, b5, b6, b7, b8⟩ := NNb h
  have ht := (h.2.1.1 (nl N - 1) (by omega)).2
  intro n
  induction n with
  | zero => intro c t _ _ _ h; omega
  | succ n ih =>
    intro c t hJ hFr hc hn
    have e8 := (JJf h hJ).2.2.2.2
    rw [f_X7_pinned_40]
    by_cases e : c = nc N
    · refine ⟨t, ?_, hJ, hFr⟩
      rw [e]
      simp (disch := omega) only [↓bnd_i, ↓cal_s, ↓cal_n, ↓cal2_s, ↓cal2_n, cal_s, cal2_s, ↓reduceIte, fa_lit, m1_lit, m2_lit, m1_lt, m2_lt, m1_eq, m2_eq, m1_le, m2_le, le_m1, le_m2, lt_m1, lt_m2, m12, m21, m1_m1, n_lt, n_le, n_eq, lt_t, lt_f, le_t, le_f, eq_t, eq_f, n_cl, inb_ok, n_add, pk_mul, pk_sub, n_rem, n_div, n_dec, n_mx, n_mn, eq_m1, eq_m2, ss_same, ss_ne, ss_r, ss_l, sr_f, sr_l, sr_same, sr_ne, sw_f, sw_l, sw_at, sw_ne, pk_us, pk_un, bI_t, bI_f, not_true_eq_false, not_false_eq_true, eq_self, and_true, true_and, and_false, false_and, or_true, true_or, or_false, false_or, decide_true, decide_false, Bool.false_eq_true, Bool.true_eq_false, e8]
    · obtain ⟨u, a1, a2, a3⟩ := d_firstPinnedBy (F := F) hF h hJ (show c < nc N by omega)
      obtain ⟨t', k1, k2, k3⟩ := ih (c + 1) u a2 (hFr.trans a3) (by omega) (by omega)
      refine ⟨t', ?_, k2, k3⟩
      rw [← k1]
      cases d : pin N c with
      | none =>
        rw [d] at a1
        rw [← st_F (pb_n d)]
        simp (disch := omega) only [↓bnd_i, ↓cal_s, ↓cal_n, ↓cal2_s, ↓cal2_n, cal_s, cal2_s, ↓reduceIte, fa_lit, m1_lit, m2_lit, m1_lt, m2_lt, m1_eq, m2_eq, m1_le, m2_le, le_m1, le_m2, lt_m1, lt_m2, m12, m21, m1_m1, n_lt, n_le, n_eq, lt_t, lt_f, le_t, le_f, eq_t, eq_f, n_cl, inb_ok, n_add, pk_mul, pk_sub, n_rem, n_div, n_dec, n_mx, n_mn, eq_m1, eq_m2, ss_same, ss_ne, ss_r, ss_l, sr_f, sr_l, sr_same, sr_ne, sw_f, sw_l, sw_at, sw_ne, pk_us, pk_un, bI_t, bI_f, not_true_eq_false, not_false_eq_true, eq_self, and_true, true_and, and_false, false_and, or_true, true_or, or_false, false_or, decide_true, decide_false, Bool.false_eq_true, Bool.true_eq_false, ↓cal2_w (a1), a1, e8, wX, f_X7_pinned_98]
      | some f =>
        rw [d] at a1
        obtain ⟨p1, p2, p3, p4, p5⟩ := pin_s h d
        have hd' := div120 (p := tp N (nl N - 1)) (w := wd N) (by omega) b3 (by omega)
        have hE : pE N = (tp N (nl N - 1) - 1) / wd N + 1 := by unfold pE; exact if_neg (by omega)
        by_cases q : f ≤ k
        · by_cases q2 : k < pE N
          · rw [← st_T (show c < 32 by omega) (by rw [pb_s d]; exact decide_eq_true ⟨q, q2⟩)]
            simp (disch := omega) only [↓bnd_i, ↓cal_s, ↓cal_n, ↓cal2_s, ↓cal2_n, cal_s, cal2_s, ↓reduceIte, fa_lit, m1_lit, m2_lit, m1_lt, m2_lt, m1_eq, m2_eq, m1_le, m2_le, le_m1, le_m2, lt_m1, lt_m2, m12, m21, m1_m1, n_lt, n_le, n_eq, lt_t, lt_f, le_t, le_f, eq_t, eq_f, n_cl, inb_ok, n_add, pk_mul, pk_sub, n_rem, n_div, n_dec, n_mx, n_mn, eq_m1, eq_m2, ss_same, ss_ne, ss_r, ss_l, sr_f, sr_l, sr_same, sr_ne, sw_f, sw_l, sw_at, sw_ne, pk_us, pk_un, bI_t, bI_f, not_true_eq_false, not_false_eq_true, eq_self, and_true, true_and, and_false, false_and, or_true, true_or, or_false, false_or, decide_true, decide_false, Bool.false_eq_true, Bool.true_eq_false, ↓cal_w (d_now h.1 a2.1), d_now h.1 a2.1, ↓cal_w (d_pieceHolding h a2 p4 (by omega)), d_pieceHolding h a2 p4 (by omega), ↓cal2_w (a1), a1, e8, wX, f_X7_pinned_98]
          · rw [← st_F (by rw [pb_s d]; exact decide_eq_false (fun q => q2 q.2))]
            simp (disch := omega) only [↓bnd_i, ↓cal_s, ↓cal_n, ↓cal2_s, ↓cal2_n, cal_s, cal2_s, ↓reduceIte, fa_lit, m1_lit, m2_lit, m1_lt, m2_lt, m1_eq, m2_eq, m1_le, m2_le, le_m1, le_m2, lt_m1, lt_m2, m12, m21, m1_m1, n_lt, n_le, n_eq, lt_t, lt_f, le_t, le_f, eq_t, eq_f, n_cl, inb_ok, n_add, pk_mul, pk_sub, n_rem, n_div, n_dec, n_mx, n_mn, eq_m1, eq_m2, ss_same, ss_ne, ss_r, ss_l, sr_f, sr_l, sr_same, sr_ne, sw_f, sw_l, sw_at, sw_ne, pk_us, pk_un, bI_t, bI_f, not_true_eq_false, not_false_eq_true, eq_self, and_true, true_and, and_false, false_and, or_true, true_or, or_false, false_or, decide_true, decide_false, Bool.false_eq_true, Bool.true_eq_false, ↓cal_w (d_now h.1 a2.1), d_now h.1 a2.1, ↓cal_w (d_pieceHolding h a2 p4 (by omega)), d_pieceHolding h a2 p4 (by omega), ↓cal2_w (a1), a1, e8, wX, f_X7_pinned_98]
        · rw [← st_F (by rw [pb_s d]; exact decide_eq_false (fun q' => q q'.1))]
          simp (disch := omega) only [↓bnd_i, ↓cal_s, ↓cal_n, ↓cal2_s, ↓cal2_n, cal_s, cal2_s, ↓reduceIte, fa_lit, m1_lit, m2_lit, m1_lt, m2_lt, m1_eq, m2_eq, m1_le, m2_le, le_m1, le_m2, lt_m1, lt_m2, m12, m21, m1_m1, n_lt, n_le, n_eq, lt_t, lt_f, le_t, le_f, eq_t, eq_f, n_cl, inb_ok, n_add, pk_mul, pk_sub, n_rem, n_div, n_dec, n_mx, n_mn, eq_m1, eq_m2, ss_same, ss_ne, ss_r, ss_l, sr_f, sr_l, sr_same, sr_ne, sw_f, sw_l, sw_at, sw_ne, pk_us, pk_un, bI_t, bI_f, not_true_eq_false, not_false_eq_true, eq_self, and_true, true_and, and_false, false_and, or_true, true_or, or_false, false_or, decide_true, decide_false, Bool.false_eq_true, Bool.true_eq_false, ↓cal2_w (a1), a1, e8, wX, f_X7_pinned_98]
def pbl (N : Nat → Int32) (l k c : Nat) : Bool := pb N k c && decide (hd N (nl N - 1) k = l)
theorem in_nn {F : Nat} {τ : St} {a b x : Nat} (ha : a < 2 ^ 31) (hb : b < 2 ^ 31) (hx : x < 2 ^ 31) : f_X8_in F τ (nI x) (nI a) (nI b) = some (bI (decide (a ≤ x ∧ x ≤ b))) := by
  rw [f_in ha hb]
  congr 2
  exact decide_eq_decide.mpr (by rw [n_le ha hx, n_le hx hb])
theorem t_pinnedBy {F : Nat} (hF : 300 < F) {τ : St} (h : NN (nw τ)) {l k : Nat} (hl : l < 8) (hk : k < 120) : ∃ t', f_X8_pinnedBy F τ (nI l) (nI k) = some (nI (bs (pbl (nw τ) l k) (nc (nw τ))), t') ∧ FrM τ t' ∧ nw t' = nw τ := by
  obtain ⟨b1, b2, b3, b4, b5, b6, b7, b8⟩ := NNb h
  have hg : nl (nw τ) - 1 < nl (nw τ) := by omega
  have ht := h.2.1.1 (nl (nw τ) - 1) hg
  have h3 : τ.2.1 19 3 = nI (nl (nw τ) - 1) := h.1.2.2.2.1
  have hh := hd_lt h (k := k) hg
  have key : ∀ (n c : Nat) (t : St), nw t = nw τ → FrM τ t → c ≤ nc (nw τ) → nc (nw τ) - c < n → ∃ t', f_X8_pinnedBy_21 F n t (nI l) (nI k) (nI (bs (pbl (nw τ) l k) c)) (nI (nl (nw τ) - 1)) (nI (tp (nw τ) (nl (nw τ) - 1))) (nI c) = some (nI (bs (pbl (nw τ) l k) (nc (nw τ))), t') ∧ FrM τ t' ∧ nw t' = nw τ := by
    intro n
    induction n with
    | zero => intro c t _ _ _ h; omega
    | succ n ih =>
      intro c t hN hFr hc hn
      have h5 : t.2.1 19 5 = nI (nc (nw τ)) := by rw [show t.2.1 19 = nw τ from hN]; exact h.1.2.2.2.2.2.1.1
      rw [f_X8_pinnedBy_21]
      by_cases e : c = nc (nw τ)
      · refine ⟨t, ?_, hFr, hN⟩
        rw [e]
        simp (disch := omega) only [↓bnd_i, ↓cal_s, ↓cal_n, ↓cal2_s, ↓cal2_n, cal_s, cal2_s, ↓reduceIte, fa_lit, m1_lit, m2_lit, m1_lt, m2_lt, m1_eq, m2_eq, m1_le, m2_le, le_m1, le_m2, lt_m1, lt_m2, m12, m21, m1_m1, n_lt, n_le, n_eq, lt_t, lt_f, le_t, le_f, eq_t, eq_f, n_cl, inb_ok, n_add, pk_mul, pk_sub, n_rem, n_div, n_dec, n_mx, n_mn, eq_m1, eq_m2, ss_same, ss_ne, ss_r, ss_l, sr_f, sr_l, sr_same, sr_ne, sw_f, sw_l, sw_at, sw_ne, pk_us, pk_un, bI_t, bI_f, not_true_eq_false, not_false_eq_true, eq_self, and_true, true_and, and_false, false_and, or_true, true_or, or_false, false_or, decide_true, decide_false, Bool.false_eq_true, Bool.true_eq_false, h5]
      · obtain ⟨u, c1, c2, c3, c4⟩ := t_comesOut (F := F) hF (τ := t) (by rw [hN]; exact h) (nI c) (nI (nl (nw τ) - 1)) (nI (tp (nw τ) (nl (nw τ) - 1)))
        rw [hN] at c1 c3 c4
        have hc' : c < nc (nw τ) := by omega
        have ol := ocx_le h (nI c) (nI (nl (nw τ) - 1)) (nI (tp (nw τ) (nl (nw τ) - 1)))
        have w2 := t_isNeeding (F := F) (t := u) ol
        obtain ⟨t', k1, k2, k3⟩ := ih (c + 1) u c3 (hFr.trans c2) (by omega) (by omega)
        refine ⟨t', ?_, k2, k3⟩
        rw [← k1]
        cases d : nd (ocx (nw τ) (nI c) (nI (nl (nw τ) - 1)) (nI (tp (nw τ) (nl (nw τ) - 1))))
        · rw [d] at w2
          have pn : pin (nw τ) c = none := by unfold pin; rw [d]; exact if_neg (fun q => by cases q.1)
          rw [← st_F (f := pbl (nw τ) l k) (by unfold pbl; rw [pb_n pn]; rfl)]
          simp (disch := omega) only [↓bnd_i, ↓cal_s, ↓cal_n, ↓cal2_s, ↓cal2_n, cal_s, cal2_s, ↓reduceIte, fa_lit, m1_lit, m2_lit, m1_lt, m2_lt, m1_eq, m2_eq, m1_le, m2_le, le_m1, le_m2, lt_m1, lt_m2, m12, m21, m1_m1, n_lt, n_le, n_eq, lt_t, lt_f, le_t, le_f, eq_t, eq_f, n_cl, inb_ok, n_add, pk_mul, pk_sub, n_rem, n_div, n_dec, n_mx, n_mn, eq_m1, eq_m2, ss_same, ss_ne, ss_r, ss_l, sr_f, sr_l, sr_same, sr_ne, sw_f, sw_l, sw_at, sw_ne, pk_us, pk_un, bI_t, bI_f, not_true_eq_false, not_false_eq_true, eq_self, and_true, true_and, and_false, false_and, or_true, true_or, or_false, false_or, decide_true, decide_false, Bool.false_eq_true, Bool.true_eq_false, ↓cal_w (w2), w2, ↓cal2_w (c1), c1, h5, f_X8_pinnedBy_97]
        · rw [d] at w2
          have g := gd_of h hc' hg (Nat.le_refl _) d
          obtain ⟨r1, r2⟩ := c4 c (nl (nw τ) - 1) (tp (nw τ) (nl (nw τ) - 1)) rfl rfl rfl g
          have hf := fc_le (N := nw τ) (c := c) (l := nl (nw τ) - 1) (p := tp (nw τ) (nl (nw τ) - 1))
          by_cases f0 : fc (nw τ) c (nl (nw τ) - 1) (tp (nw τ) (nl (nw τ) - 1)) = 0
          · rw [fx_0 f0] at r1
            have pn : pin (nw τ) c = none := by unfold pin; exact if_neg (fun q => q.2 f0)
            rw [← st_F (f := pbl (nw τ) l k) (by unfold pbl; rw [pb_n pn]; rfl)]
            simp (disch := omega) only [↓bnd_i, ↓cal_s, ↓cal_n, ↓cal2_s, ↓cal2_n, cal_s, cal2_s, ↓reduceIte, fa_lit, m1_lit, m2_lit, m1_lt, m2_lt, m1_eq, m2_eq, m1_le, m2_le, le_m1, le_m2, lt_m1, lt_m2, m12, m21, m1_m1, n_lt, n_le, n_eq, lt_t, lt_f, le_t, le_f, eq_t, eq_f, n_cl, inb_ok, n_add, pk_mul, pk_sub, n_rem, n_div, n_dec, n_mx, n_mn, eq_m1, eq_m2, ss_same, ss_ne, ss_r, ss_l, sr_f, sr_l, sr_same, sr_ne, sw_f, sw_l, sw_at, sw_ne, pk_us, pk_un, bI_t, bI_f, not_true_eq_false, not_false_eq_true, eq_self, and_true, true_and, and_false, false_and, or_true, true_or, or_false, false_or, decide_true, decide_false, Bool.false_eq_true, Bool.true_eq_false, ↓cal_w (w2), w2, ↓cal2_w (c1), c1, h5, r1, f_X8_pinnedBy_97]
          · rw [fx_s f0] at r1
            have ps : pin (nw τ) c = some ((fc (nw τ) c (nl (nw τ) - 1) (tp (nw τ) (nl (nw τ) - 1)) - 1) / wd (nw τ)) := by unfold pin; exact if_pos ⟨d, f0⟩
            obtain ⟨p1, p2, p3, p4, p5⟩ := pin_s h ps
            have hNu : NN (nw u) := by rw [c3]; exact h
            have u1 := t_pieceOf (F := F) hNu.1 (show 1 ≤ fc (nw τ) c (nl (nw τ) - 1) (tp (nw τ) (nl (nw τ) - 1)) by omega) (by omega)
            have u2 := t_pieceOf (F := F) hNu.1 (show 1 ≤ tp (nw τ) (nl (nw τ) - 1) by omega) (by omega)
            rw [c3] at u1 u2
            have hd' := div120 (p := tp (nw τ) (nl (nw τ) - 1)) (w := wd (nw τ)) (by omega) b3 (by omega)
            have hE : pE (nw τ) = (tp (nw τ) (nl (nw τ) - 1) - 1) / wd (nw τ) + 1 := by unfold pE; exact if_neg (by omega)
            have u3 := in_nn (F := F) (τ := u) (a := (fc (nw τ) c (nl (nw τ) - 1) (tp (nw τ) (nl (nw τ) - 1)) - 1) / wd (nw τ)) (b := (tp (nw τ) (nl (nw τ) - 1) - 1) / wd (nw τ)) (x := k) (by omega) (by omega) (by omega)
            have u4 := t_holderOf (F := F) (by omega) hNu (l := nl (nw τ) - 1) (k := k) (by rw [c3]; exact hg) hk
            rw [c3] at u4
            by_cases q : (fc (nw τ) c (nl (nw τ) - 1) (tp (nw τ) (nl (nw τ) - 1)) - 1) / wd (nw τ) ≤ k ∧ k ≤ (tp (nw τ) (nl (nw τ) - 1) - 1) / wd (nw τ)
            · rw [decide_eq_true q] at u3
              have hb : pb (nw τ) k c = true := by rw [pb_s ps]; exact decide_eq_true ⟨q.1, by omega⟩
              by_cases q3 : hd (nw τ) (nl (nw τ) - 1) k = l
              · rw [← st_T (f := pbl (nw τ) l k) (show c < 32 by omega) (by unfold pbl; rw [hb, decide_eq_true q3]; rfl)]
                simp (disch := omega) only [↓bnd_i, ↓cal_s, ↓cal_n, ↓cal2_s, ↓cal2_n, cal_s, cal2_s, ↓reduceIte, fa_lit, m1_lit, m2_lit, m1_lt, m2_lt, m1_eq, m2_eq, m1_le, m2_le, le_m1, le_m2, lt_m1, lt_m2, m12, m21, m1_m1, n_lt, n_le, n_eq, lt_t, lt_f, le_t, le_f, eq_t, eq_f, n_cl, inb_ok, n_add, pk_mul, pk_sub, n_rem, n_div, n_dec, n_mx, n_mn, eq_m1, eq_m2, ss_same, ss_ne, ss_r, ss_l, sr_f, sr_l, sr_same, sr_ne, sw_f, sw_l, sw_at, sw_ne, pk_us, pk_un, bI_t, bI_f, not_true_eq_false, not_false_eq_true, eq_self, and_true, true_and, and_false, false_and, or_true, true_or, or_false, false_or, decide_true, decide_false, Bool.false_eq_true, Bool.true_eq_false, ↓cal_w (w2), w2, ↓cal_w (u1), u1, ↓cal_w (u2), u2, ↓cal_w (u3), u3, ↓cal_w (u4), u4, ↓cal2_w (c1), c1, h5, r1, f_X8_pinnedBy_97]
              · rw [← st_F (f := pbl (nw τ) l k) (by unfold pbl; rw [decide_eq_false q3, Bool.and_false])]
                simp (disch := omega) only [↓bnd_i, ↓cal_s, ↓cal_n, ↓cal2_s, ↓cal2_n, cal_s, cal2_s, ↓reduceIte, fa_lit, m1_lit, m2_lit, m1_lt, m2_lt, m1_eq, m2_eq, m1_le, m2_le, le_m1, le_m2, lt_m1, lt_m2, m12, m21, m1_m1, n_lt, n_le, n_eq, lt_t, lt_f, le_t, le_f, eq_t, eq_f, n_cl, inb_ok, n_add, pk_mul, pk_sub, n_rem, n_div, n_dec, n_mx, n_mn, eq_m1, eq_m2, ss_same, ss_ne, ss_r, ss_l, sr_f, sr_l, sr_same, sr_ne, sw_f, sw_l, sw_at, sw_ne, pk_us, pk_un, bI_t, bI_f, not_true_eq_false, not_false_eq_true, eq_self, and_true, true_and, and_false, false_and, or_true, true_or, or_false, false_or, decide_true, decide_false, Bool.false_eq_true, Bool.true_eq_false, ↓cal_w (w2), w2, ↓cal_w (u1), u1, ↓cal_w (u2), u2, ↓cal_w (u3), u3, ↓cal_w (u4), u4, ↓cal2_w (c1), c1, h5, r1, f_X8_pinnedBy_97]
            · rw [decide_eq_false q] at u3
              have hb : pb (nw τ) k c = false := by rw [pb_s ps]; exact decide_eq_false (fun q' => q ⟨q'.1, by omega⟩)
              rw [← st_F (f := pbl (nw τ) l k) (by unfold pbl; rw [hb]; rfl)]
              simp (disch := omega) only [↓bnd_i, ↓cal_s, ↓cal_n, ↓cal2_s, ↓cal2_n, cal_s, cal2_s, ↓reduceIte, fa_lit, m1_lit, m2_lit, m1_lt, m2_lt, m1_eq, m2_eq, m1_le, m2_le, le_m1, le_m2, lt_m1, lt_m2, m12, m21, m1_m1, n_lt, n_le, n_eq, lt_t, lt_f, le_t, le_f, eq_t, eq_f, n_cl, inb_ok, n_add, pk_mul, pk_sub, n_rem, n_div, n_dec, n_mx, n_mn, eq_m1, eq_m2, ss_same, ss_ne, ss_r, ss_l, sr_f, sr_l, sr_same, sr_ne, sw_f, sw_l, sw_at, sw_ne, pk_us, pk_un, bI_t, bI_f, not_true_eq_false, not_false_eq_true, eq_self, and_true, true_and, and_false, false_and, or_true, true_or, or_false, false_or, decide_true, decide_false, Bool.false_eq_true, Bool.true_eq_false, ↓cal_w (w2), w2, ↓cal_w (u1), u1, ↓cal_w (u2), u2, ↓cal_w (u3), u3, ↓cal2_w (c1), c1, h5, r1, f_X8_pinnedBy_97]
  obtain ⟨t', k1, k2, k3⟩ := key F 0 τ rfl (FrM.refl τ) (by omega) (by omega)
  refine ⟨t', ?_, k2, k3⟩
  have k1' : f_X8_pinnedBy_21 F F τ (nI l) (nI k) (nI 0) (nI (nl (nw τ) - 1)) (nI (tp (nw τ) (nl (nw τ) - 1))) (nI 0) = _ := k1
  unfold f_X8_pinnedBy
  simp (disch := omega) only [↓bnd_i, ↓cal_s, ↓cal_n, ↓cal2_s, ↓cal2_n, cal_s, cal2_s, ↓reduceIte, fa_lit, m1_lit, m2_lit, m1_lt, m2_lt, m1_eq, m2_eq, m1_le, m2_le, le_m1, le_m2, lt_m1, lt_m2, m12, m21, m1_m1, n_lt, n_le, n_eq, lt_t, lt_f, le_t, le_f, eq_t, eq_f, n_cl, inb_ok, n_add, pk_mul, pk_sub, n_rem, n_div, n_dec, n_mx, n_mn, eq_m1, eq_m2, ss_same, ss_ne, ss_r, ss_l, sr_f, sr_l, sr_same, sr_ne, sw_f, sw_l, sw_at, sw_ne, pk_us, pk_un, bI_t, bI_f, not_true_eq_false, not_false_eq_true, eq_self, and_true, true_and, and_false, false_and, or_true, true_or, or_false, false_or, decide_true, decide_false, Bool.false_eq_true, Bool.true_eq_false, ↓cal_w (t_placeOf (τ := τ) (show nl (nw τ) - 1 < 8 by omega)), t_placeOf (τ := τ) (show nl (nw τ) - 1 < 8 by omega), h3, ht.1]
  exact k1'
theorem op_pinned {F : Nat} (hF : 300 < F) {σ τ : St} (C : Core σ τ) (x y : Int32) : Op σ τ (f_X7_pinned F σ x y) (f_X8_pinned F τ x y) := by
  obtain ⟨b1, b2, b3, b4, b5, b6, b7, b8⟩ := NNb C.1
  have hg : nl (nw τ) - 1 < nl (nw τ) := by omega
  unfold f_X7_pinned f_X8_pinned
  rcases pieceX C.1 x y with hx | ⟨l, k, hl, hk, rfl, rfl⟩
  · simp (disch := omega) only [↓bnd_i, ↓cal_s, ↓cal_n, ↓cal2_s, ↓cal2_n, cal_s, cal2_s, ↓reduceIte, fa_lit, m1_lit, m2_lit, m1_lt, m2_lt, m1_eq, m2_eq, m1_le, m2_le, le_m1, le_m2, lt_m1, lt_m2, m12, m21, m1_m1, n_lt, n_le, n_eq, lt_t, lt_f, le_t, le_f, eq_t, eq_f, n_cl, inb_ok, n_add, pk_mul, pk_sub, n_rem, n_div, n_dec, n_mx, n_mn, eq_m1, eq_m2, ss_same, ss_ne, ss_r, ss_l, sr_f, sr_l, sr_same, sr_ne, sw_f, sw_l, sw_at, sw_ne, pk_us, pk_un, bI_t, bI_f, not_true_eq_false, not_false_eq_true, eq_self, and_true, true_and, and_false, false_and, or_true, true_or, or_false, false_or, decide_true, decide_false, Bool.false_eq_true, Bool.true_eq_false, ↓cal_w (d_hasPieceN C.1 C.2 hx), d_hasPieceN C.1 C.2 hx, ↓cal_w (t_hasPieceN C.1 hx), t_hasPieceN C.1 hx]
    exact Op.same C _
  · have w1 := d_hasPiece (F := F) C.1 C.2 hl hk
    have w2 := t_hasPiece (F := F) C.1 hl (show k < 2 ^ 31 by omega)
    rw [decide_eq_true hk, Bool.true_and] at w2
    cases d : hp (nw τ) l k
    · rw [d] at w1 w2
      simp (disch := omega) only [↓bnd_i, ↓cal_s, ↓cal_n, ↓cal2_s, ↓cal2_n, cal_s, cal2_s, ↓reduceIte, fa_lit, m1_lit, m2_lit, m1_lt, m2_lt, m1_eq, m2_eq, m1_le, m2_le, le_m1, le_m2, lt_m1, lt_m2, m12, m21, m1_m1, n_lt, n_le, n_eq, lt_t, lt_f, le_t, le_f, eq_t, eq_f, n_cl, inb_ok, n_add, pk_mul, pk_sub, n_rem, n_div, n_dec, n_mx, n_mn, eq_m1, eq_m2, ss_same, ss_ne, ss_r, ss_l, sr_f, sr_l, sr_same, sr_ne, sw_f, sw_l, sw_at, sw_ne, pk_us, pk_un, bI_t, bI_f, not_true_eq_false, not_false_eq_true, eq_self, and_true, true_and, and_false, false_and, or_true, true_or, or_false, false_or, decide_true, decide_false, Bool.false_eq_true, Bool.true_eq_false, ↓cal_w (w1), w1, ↓cal_w (w2), w2]
      exact Op.same C _
    · rw [d] at w1 w2
      have hh := hd_lt C.1 (k := k) hg
      obtain ⟨u, g1, g2, g3⟩ := t_pinnedBy (F := F) hF C.1 (l := l) (by omega) hk
      have w3 := d_keeperOf (F := F) (by omega) C.1 C.2 hg hk
      by_cases q : hd (nw τ) (nl (nw τ) - 1) k = l
      · obtain ⟨t, k1, k2, k3⟩ := d_pinnedL (F := F) hF C.1 hk (σ := σ) F 0 σ C.2 (Fr.refl σ) (by omega) (by omega)
        have k1' : f_X7_pinned_40 F F σ (nI k) (nI 0) (nI 0) = _ := k1
        rw [show bs (pbl (nw τ) l k) (nc (nw τ)) = bs (pb (nw τ) k) (nc (nw τ)) from bs_cong (fun c _ => by unfold pbl; rw [decide_eq_true q, Bool.and_true])] at g1
        simp (disch := omega) only [↓bnd_i, ↓cal_s, ↓cal_n, ↓cal2_s, ↓cal2_n, cal_s, cal2_s, ↓reduceIte, fa_lit, m1_lit, m2_lit, m1_lt, m2_lt, m1_eq, m2_eq, m1_le, m2_le, le_m1, le_m2, lt_m1, lt_m2, m12, m21, m1_m1, n_lt, n_le, n_eq, lt_t, lt_f, le_t, le_f, eq_t, eq_f, n_cl, inb_ok, n_add, pk_mul, pk_sub, n_rem, n_div, n_dec, n_mx, n_mn, eq_m1, eq_m2, ss_same, ss_ne, ss_r, ss_l, sr_f, sr_l, sr_same, sr_ne, sw_f, sw_l, sw_at, sw_ne, pk_us, pk_un, bI_t, bI_f, not_true_eq_false, not_false_eq_true, eq_self, and_true, true_and, and_false, false_and, or_true, true_or, or_false, false_or, decide_true, decide_false, Bool.false_eq_true, Bool.true_eq_false, ↓cal_w (w1), w1, ↓cal_w (w2), w2, ↓cal_w (w3), w3, ↓cal_w (d_going C.1 C.2), d_going C.1 C.2, ↓cal2_w (k1'), k1', ↓cal2_w (g1), g1]
        exact opA C k2 k3 g2 g3 _
      · rw [show bs (pbl (nw τ) l k) (nc (nw τ)) = bs (fun _ => false) (nc (nw τ)) from bs_cong (fun c _ => by unfold pbl; rw [decide_eq_false q, Bool.and_false]), show bs (fun _ => false) (nc (nw τ)) = bs (fun _ => false) 0 from bs_ext (by omega) (fun _ _ _ => rfl), show bs (fun _ => false) 0 = 0 from rfl] at g1
        simp (disch := omega) only [↓bnd_i, ↓cal_s, ↓cal_n, ↓cal2_s, ↓cal2_n, cal_s, cal2_s, ↓reduceIte, fa_lit, m1_lit, m2_lit, m1_lt, m2_lt, m1_eq, m2_eq, m1_le, m2_le, le_m1, le_m2, lt_m1, lt_m2, m12, m21, m1_m1, n_lt, n_le, n_eq, lt_t, lt_f, le_t, le_f, eq_t, eq_f, n_cl, inb_ok, n_add, pk_mul, pk_sub, n_rem, n_div, n_dec, n_mx, n_mn, eq_m1, eq_m2, ss_same, ss_ne, ss_r, ss_l, sr_f, sr_l, sr_same, sr_ne, sw_f, sw_l, sw_at, sw_ne, pk_us, pk_un, bI_t, bI_f, not_true_eq_false, not_false_eq_true, eq_self, and_true, true_and, and_false, false_and, or_true, true_or, or_false, false_or, decide_true, decide_false, Bool.false_eq_true, Bool.true_eq_false, ↓cal_w (w1), w1, ↓cal_w (w2), w2, ↓cal_w (w3), w3, ↓cal_w (d_going C.1 C.2), d_going C.1 C.2, ↓cal2_w (g1), g1]
        exact opA C C.2 (Fr.refl σ) g2 g3 _
/-! spare -/
/-- the least piece that one of the first copies needs -/
def frF (N : Nat → Int32) : Nat → Nat
  | 0 => 120
  | c + 1 => match pin N c with
    | none => frF N c
    | some f => min (frF N c) f
theorem frF_n {N : Nat → Int32} {c : Nat} (e : pin N c = none) : frF N (c + 1) = frF N c := by rw [frF, e]
theorem frF_s {N : Nat → Int32} {c f : Nat} (e : pin N c = some f) : frF N (c + 1) = min (frF N c) f := by rw [frF, e]
theorem frF_le {N : Nat → Int32} : ∀ n, frF N n ≤ 120
  | 0 => Nat.le_refl _
  | n + 1 => by
    have := frF_le (N := N) n
    cases e : pin N n with
    | none => rw [frF_n e]; exact this
    | some f => rw [frF_s e]; omega
theorem frF_t {N : Nat → Int32} {k : Nat} (hk : k < 120) : ∀ n, frF N n ≤ k ↔ ∃ c f, c < n ∧ pin N c = some f ∧ f ≤ k
  | 0 => by
    constructor
    · intro h; have : frF N 0 = 120 := rfl; omega
    · rintro ⟨c, f, h, -⟩; omega
  | n + 1 => by
    have ih := frF_t (N := N) hk n
    cases e : pin N n with
    | none =>
      rw [frF_n e, ih]
      constructor
      · rintro ⟨c, f, h1, h2⟩; exact ⟨c, f, by omega, h2⟩
      · rintro ⟨c, f, h1, h2, h3⟩
        by_cases q : c = n
        · rw [q, e] at h2; cases h2
        · exact ⟨c, f, by omega, h2, h3⟩
    | some g =>
      rw [frF_s e]
      constructor
      · intro h
        by_cases q : g ≤ k
        · exact ⟨n, g, by omega, e, q⟩
        · obtain ⟨c, f, h1, h2⟩ := ih.mp (by omega)
          exact ⟨c, f, by omega, h2⟩
      · rintro ⟨c, f, h1, h2, h3⟩
        by_cases q : c = n
        · rw [q, e] at h2; cases h2; omega
        · have := ih.mpr ⟨c, f, by omega, h2, h3⟩
          omega
/-- whether a piece of the way is needed by one of them -/
def inR (N : Nat → Int32) (k : Nat) : Bool := decide (frF N (nc N) ≤ k ∧ k < pE N)
theorem pbl_0 {N : Nat → Int32} (h : NN N) {l k : Nat} (hk : k < 120) : nI (bs (pbl N l k) (nc N)) = nI 0 ↔ (decide (hd N (nl N - 1) k = l) && inR N k) = false := by
  obtain ⟨b1, b2, b3, b4, b5, b6, b7, b8⟩ := NNb h
  rw [show nI 0 = nI (bs (fun _ => false) (nc N)) by rw [show bs (fun _ => false) (nc N) = bs (fun _ => false) 0 from bs_ext (by omega) (fun _ _ _ => rfl)]; rfl, st_eq (by omega)]
  unfold pbl inR
  constructor
  · intro q
    by_cases e : hd N (nl N - 1) k = l
    · rw [decide_eq_true e, Bool.true_and]
      refine decide_eq_false (fun q2 => ?_)
      obtain ⟨c, f, h1, h2, h3⟩ := (frF_t hk (nc N)).mp q2.1
      have := q c h1
      rw [pb_s h2, decide_eq_true e, decide_eq_true ⟨h3, q2.2⟩] at this
      cases this
    · rw [decide_eq_false e]; rfl
  · intro q c hc
    by_cases e : hd N (nl N - 1) k = l
    · rw [decide_eq_true e, Bool.true_and] at q
      rw [decide_eq_true e, Bool.and_true]
      have q' := of_decide_eq_false q
      cases d : pin N c with
      | none => exact pb_n d
      | some f =>
        rw [pb_s d]
        exact decide_eq_false (fun q2 => q' ⟨(frF_t hk (nc N)).mpr ⟨c, f, hc, d, q2.1⟩, q2.2⟩)
    · rw [decide_eq_false e, Bool.and_false]
def kpt (N : Nat → Int32) (l k : Nat) : Bool := decide (0 < kp N l k)
/-- how many pieces are kept, of the first lines -/
def ksF (N : Nat → Int32) (n : Nat) : Nat := fb_sm (fun l => fb_ct (kpt N l) 120) n
theorem ksF_le {N : Nat → Int32} (n : Nat) : ksF N n ≤ n * 120 := fb_sm_bound (fun _ _ => fb_ct_le _ _)
theorem d_keptPieces {F : Nat} (hF : 300 < F) {σ : St} {N : Nat → Int32} (h : NN N) (j : JJ σ N) : f_X2_keptPieces F σ = some (nI (ksF N (nl N))) := by
  obtain ⟨b1, b2, b3, b4, b5, b6, b7, b8⟩ := NNb h
  obtain ⟨e4, e5, e6, e7, e8⟩ := JJf h j
  have inner : ∀ (K : St → Int32 → Int32 → Option Int32) (l : Nat) (s : Nat), l < nl N → s ≤ 960 → ∀ n k, k ≤ 120 → 120 - k < n → f_X2_keptPieces_14 F K n σ (nI (s + fb_ct (kpt N l) k)) (nI l) (nI k) = K σ (nI (s + fb_ct (kpt N l) 120)) (nI (l + 1)) := by
    intro K l s hl hs n
    induction n with
    | zero => intro k _ h; omega
    | succ n ih =>
      intro k hk hn
      rw [f_X2_keptPieces_14]
      by_cases e : k = 120
      · rw [e]
        simp (disch := omega) only [↓bnd_i, ↓cal_s, ↓cal_n, ↓cal2_s, ↓cal2_n, cal_s, cal2_s, ↓reduceIte, fa_lit, m1_lit, m2_lit, m1_lt, m2_lt, m1_eq, m2_eq, m1_le, m2_le, le_m1, le_m2, lt_m1, lt_m2, m12, m21, m1_m1, n_lt, n_le, n_eq, lt_t, lt_f, le_t, le_f, eq_t, eq_f, n_cl, inb_ok, n_add, pk_mul, pk_sub, n_rem, n_div, n_dec, n_mx, n_mn, eq_m1, eq_m2, ss_same, ss_ne, ss_r, ss_l, sr_f, sr_l, sr_same, sr_ne, sw_f, sw_l, sw_at, sw_ne, pk_us, pk_un, bI_t, bI_f, not_true_eq_false, not_false_eq_true, eq_self, and_true, true_and, and_false, false_and, or_true, true_or, or_false, false_or, decide_true, decide_false, Bool.false_eq_true, Bool.true_eq_false]
      · have hkp := h.2.2.1.1 l k (by omega) (by omega)
        have jc := j_con j hl (show k < 120 by omega)
        have ih' := ih (k + 1) (by omega) (by omega)
        rw [fb_ct_succ] at ih'
        have hct := fb_ct_le (kpt N l) k
        have hk4 := hkp.2
        by_cases z : kp N l k = 0
        · rw [show kpt N l k = false from decide_eq_false (by omega)] at ih'
          simp only [Bool.false_eq_true, if_false, Nat.add_zero] at ih'
          simp (disch := omega) only [↓bnd_i, ↓cal_s, ↓cal_n, ↓cal2_s, ↓cal2_n, cal_s, cal2_s, ↓reduceIte, fa_lit, m1_lit, m2_lit, m1_lt, m2_lt, m1_eq, m2_eq, m1_le, m2_le, le_m1, le_m2, lt_m1, lt_m2, m12, m21, m1_m1, n_lt, n_le, n_eq, lt_t, lt_f, le_t, le_f, eq_t, eq_f, n_cl, inb_ok, n_add, pk_mul, pk_sub, n_rem, n_div, n_dec, n_mx, n_mn, eq_m1, eq_m2, ss_same, ss_ne, ss_r, ss_l, sr_f, sr_l, sr_same, sr_ne, sw_f, sw_l, sw_at, sw_ne, pk_us, pk_un, bI_t, bI_f, not_true_eq_false, not_false_eq_true, eq_self, and_true, true_and, and_false, false_and, or_true, true_or, or_false, false_or, decide_true, decide_false, Bool.false_eq_true, Bool.true_eq_false, jc, f_X2_keptPieces_41, Nat.add_zero]
          exact ih'
        · rw [show kpt N l k = true from decide_eq_true (by omega)] at ih'
          simp only [if_true] at ih'
          simp (disch := omega) only [↓bnd_i, ↓cal_s, ↓cal_n, ↓cal2_s, ↓cal2_n, cal_s, cal2_s, ↓reduceIte, fa_lit, m1_lit, m2_lit, m1_lt, m2_lt, m1_eq, m2_eq, m1_le, m2_le, le_m1, le_m2, lt_m1, lt_m2, m12, m21, m1_m1, n_lt, n_le, n_eq, lt_t, lt_f, le_t, le_f, eq_t, eq_f, n_cl, inb_ok, n_add, pk_mul, pk_sub, n_rem, n_div, n_dec, n_mx, n_mn, eq_m1, eq_m2, ss_same, ss_ne, ss_r, ss_l, sr_f, sr_l, sr_same, sr_ne, sw_f, sw_l, sw_at, sw_ne, pk_us, pk_un, bI_t, bI_f, not_true_eq_false, not_false_eq_true, eq_self, and_true, true_and, and_false, false_and, or_true, true_or, or_false, false_or, decide_true, decide_false, Bool.false_eq_true, Bool.true_eq_false, jc, f_X2_keptPieces_41, Nat.add_assoc]
          exact ih'
  have outer : ∀ n l, l ≤ nl N → nl N - l < n → f_X2_keptPieces_4 F n σ (nI (ksF N l)) (nI l) = some (nI (ksF N (nl N))) := by
    intro n
    induction n with
    | zero => intro l _ h; omega
    | succ n ih =>
      intro l hl hn
      rw [f_X2_keptPieces_4]
      by_cases e : l = nl N
      · rw [e]
        simp (disch := omega) only [↓bnd_i, ↓cal_s, ↓cal_n, ↓cal2_s, ↓cal2_n, cal_s, cal2_s, ↓reduceIte, fa_lit, m1_lit, m2_lit, m1_lt, m2_lt, m1_eq, m2_eq, m1_le, m2_le, le_m1, le_m2, lt_m1, lt_m2, m12, m21, m1_m1, n_lt, n_le, n_eq, lt_t, lt_f, le_t, le_f, eq_t, eq_f, n_cl, inb_ok, n_add, pk_mul, pk_sub, n_rem, n_div, n_dec, n_mx, n_mn, eq_m1, eq_m2, ss_same, ss_ne, ss_r, ss_l, sr_f, sr_l, sr_same, sr_ne, sw_f, sw_l, sw_at, sw_ne, pk_us, pk_un, bI_t, bI_f, not_true_eq_false, not_false_eq_true, eq_self, and_true, true_and, and_false, false_and, or_true, true_or, or_false, false_or, decide_true, decide_false, Bool.false_eq_true, Bool.true_eq_false, e6]
      · have hle := ksF_le (N := N) l
        have k := inner (f_X2_keptPieces_4 F n) l (ksF N l) (by omega) (by omega) F 0 (by omega) (by omega)
        rw [show fb_ct (kpt N l) 0 = 0 from rfl, Nat.add_zero] at k
        simp (disch := omega) only [↓bnd_i, ↓cal_s, ↓cal_n, ↓cal2_s, ↓cal2_n, cal_s, cal2_s, ↓reduceIte, fa_lit, m1_lit, m2_lit, m1_lt, m2_lt, m1_eq, m2_eq, m1_le, m2_le, le_m1, le_m2, lt_m1, lt_m2, m12, m21, m1_m1, n_lt, n_le, n_eq, lt_t, lt_f, le_t, le_f, eq_t, eq_f, n_cl, inb_ok, n_add, pk_mul, pk_sub, n_rem, n_div, n_dec, n_mx, n_mn, eq_m1, eq_m2, ss_same, ss_ne, ss_r, ss_l, sr_f, sr_l, sr_same, sr_ne, sw_f, sw_l, sw_at, sw_ne, pk_us, pk_un, bI_t, bI_f, not_true_eq_false, not_false_eq_true, eq_self, and_true, true_and, and_false, false_and, or_true, true_or, or_false, false_or, decide_true, decide_false, Bool.false_eq_true, Bool.true_eq_false, e6]
        rw [k]
        exact ih (l + 1) (by omega) (by omega)
  exact outer F 0 (by omega) (by omega)
/-- kept, and not needed -/
def spt (N : Nat → Int32) (l k : Nat) : Bool := kpt N l k && !(decide (hd N (nl N - 1) k = l) && inR N k)
def spF (N : Nat → Int32) (n : Nat) : Nat := fb_sm (fun l => fb_ct (spt N l) 120) n
theorem spF_le {N : Nat → Int32} (n : Nat) : spF N n ≤ n * 120 := fb_sm_bound (fun _ _ => fb_ct_le _ _)
theorem t_spare {F : Nat} (hF : 300 < F) {τ : St} (h : NN (nw τ)) : ∃ t', f_X8_spare F τ = some (nI (spF (nw τ) (nl (nw τ))), t') ∧ FrM τ t' ∧ nw t' = nw τ := by
  obtain ⟨b1, b2, b3, b4, b5, b6, b7, b8⟩ := NNb h
  have inner : ∀ (K : St → Int32 → Int32 → Option (Int32 × St)) (l s : Nat), l < nl (nw τ) → s ≤ 960 → ∀ (n k : Nat) (t : St), nw t = nw τ → FrM τ t → k ≤ 120 → 120 - k < n → ∃ t', f_X8_spare_16 F K n t (nI (s + fb_ct (spt (nw τ) l) k)) (nI l) (nI k) = K t' (nI (s + fb_ct (spt (nw τ) l) 120)) (nI (l + 1)) ∧ FrM τ t' ∧ nw t' = nw τ := by
    intro K l s hl hs n
    induction n with
    | zero => intro k t _ _ _ h; omega
    | succ n ih =>
      intro k t hN hFr hk hn
      rw [f_X8_spare_16]
      by_cases e : k = 120
      · refine ⟨t, ?_, hFr, hN⟩
        rw [e]
        simp (disch := omega) only [↓bnd_i, ↓cal_s, ↓cal_n, ↓cal2_s, ↓cal2_n, cal_s, cal2_s, ↓reduceIte, fa_lit, m1_lit, m2_lit, m1_lt, m2_lt, m1_eq, m2_eq, m1_le, m2_le, le_m1, le_m2, lt_m1, lt_m2, m12, m21, m1_m1, n_lt, n_le, n_eq, lt_t, lt_f, le_t, le_f, eq_t, eq_f, n_cl, inb_ok, n_add, pk_mul, pk_sub, n_rem, n_div, n_dec, n_mx, n_mn, eq_m1, eq_m2, ss_same, ss_ne, ss_r, ss_l, sr_f, sr_l, sr_same, sr_ne, sw_f, sw_l, sw_at, sw_ne, pk_us, pk_un, bI_t, bI_f, not_true_eq_false, not_false_eq_true, eq_self, and_true, true_and, and_false, false_and, or_true, true_or, or_false, false_or, decide_true, decide_false, Bool.false_eq_true, Bool.true_eq_false]
      · have hNt : NN (nw t) := by rw [hN]; exact h
        have hk' : k < 120 := by omega
        have hkp := h.2.2.1.1 l k (by omega) hk'
        have hk4 := hkp.2
        have w1 := t_keptOf (F := F) hNt (show l < 8 by omega) hk'
        rw [hN] at w1
        have hct := fb_ct_le (spt (nw τ) l) k
        by_cases z : kp (nw τ) l k = 0
        · obtain ⟨t', k1, k2, k3⟩ := ih (k + 1) t hN hFr (by omega) (by omega)
          refine ⟨t', ?_, k2, k3⟩
          rw [fb_ct_succ, show spt (nw τ) l k = false by unfold spt kpt; rw [decide_eq_false (by omega)]; rfl] at k1
          simp only [Bool.false_eq_true, if_false, Nat.add_zero] at k1
          rw [z] at w1
          simp (disch := omega) only [↓bnd_i, ↓cal_s, ↓cal_n, ↓cal2_s, ↓cal2_n, cal_s, cal2_s, ↓reduceIte, fa_lit, m1_lit, m2_lit, m1_lt, m2_lt, m1_eq, m2_eq, m1_le, m2_le, le_m1, le_m2, lt_m1, lt_m2, m12, m21, m1_m1, n_lt, n_le, n_eq, lt_t, lt_f, le_t, le_f, eq_t, eq_f, n_cl, inb_ok, n_add, pk_mul, pk_sub, n_rem, n_div, n_dec, n_mx, n_mn, eq_m1, eq_m2, ss_same, ss_ne, ss_r, ss_l, sr_f, sr_l, sr_same, sr_ne, sw_f, sw_l, sw_at, sw_ne, pk_us, pk_un, bI_t, bI_f, not_true_eq_false, not_false_eq_true, eq_self, and_true, true_and, and_false, false_and, or_true, true_or, or_false, false_or, decide_true, decide_false, Bool.false_eq_true, Bool.true_eq_false, ↓cal_w (w1), w1, f_X8_spare_43]
          exact k1
        · obtain ⟨u, c1, c2, c3⟩ := t_pinnedBy (F := F) hF hNt (l := l) (k := k) (by omega) hk'
          rw [hN] at c1 c3
          obtain ⟨t', k1, k2, k3⟩ := ih (k + 1) u c3 (hFr.trans c2) (by omega) (by omega)
          refine ⟨t', ?_, k2, k3⟩
          have p0 := pbl_0 h (l := l) hk'
          cases d : decide (hd (nw τ) (nl (nw τ) - 1) k = l) && inR (nw τ) k
          · rw [fb_ct_succ, show spt (nw τ) l k = true by unfold spt kpt; rw [decide_eq_true (by omega), d]; rfl] at k1
            simp only [if_true] at k1
            rw [p0.mpr d] at c1
            simp (disch := omega) only [↓bnd_i, ↓cal_s, ↓cal_n, ↓cal2_s, ↓cal2_n, cal_s, cal2_s, ↓reduceIte, fa_lit, m1_lit, m2_lit, m1_lt, m2_lt, m1_eq, m2_eq, m1_le, m2_le, le_m1, le_m2, lt_m1, lt_m2, m12, m21, m1_m1, n_lt, n_le, n_eq, lt_t, lt_f, le_t, le_f, eq_t, eq_f, n_cl, inb_ok, n_add, pk_mul, pk_sub, n_rem, n_div, n_dec, n_mx, n_mn, eq_m1, eq_m2, ss_same, ss_ne, ss_r, ss_l, sr_f, sr_l, sr_same, sr_ne, sw_f, sw_l, sw_at, sw_ne, pk_us, pk_un, bI_t, bI_f, not_true_eq_false, not_false_eq_true, eq_self, and_true, true_and, and_false, false_and, or_true, true_or, or_false, false_or, decide_true, decide_false, Bool.false_eq_true, Bool.true_eq_false, ↓cal_w (w1), w1, ↓cal2_w (c1), c1, f_X8_spare_43, Nat.add_assoc]
            exact k1
          · rw [fb_ct_succ, show spt (nw τ) l k = false by unfold spt; rw [d, Bool.not_true, Bool.and_false]] at k1
            simp only [Bool.false_eq_true, if_false, Nat.add_zero] at k1
            have nz : ¬ nI (bs (pbl (nw τ) l k) (nc (nw τ))) = nI 0 := fun q => by rw [p0.mp q] at d; cases d
            simp (disch := omega) only [↓bnd_i, ↓cal_s, ↓cal_n, ↓cal2_s, ↓cal2_n, cal_s, cal2_s, ↓reduceIte, fa_lit, m1_lit, m2_lit, m1_lt, m2_lt, m1_eq, m2_eq, m1_le, m2_le, le_m1, le_m2, lt_m1, lt_m2, m12, m21, m1_m1, n_lt, n_le, n_eq, lt_t, lt_f, le_t, le_f, eq_t, eq_f, n_cl, inb_ok, n_add, pk_mul, pk_sub, n_rem, n_div, n_dec, n_mx, n_mn, eq_m1, eq_m2, ss_same, ss_ne, ss_r, ss_l, sr_f, sr_l, sr_same, sr_ne, sw_f, sw_l, sw_at, sw_ne, pk_us, pk_un, bI_t, bI_f, not_true_eq_false, not_false_eq_true, eq_self, and_true, true_and, and_false, false_and, or_true, true_or, or_false, false_or, decide_true, decide_false, Bool.false_eq_true, Bool.true_eq_false, ↓cal_w (w1), w1, ↓cal2_w (c1), c1, f_X8_spare_43, eq_false nz]
            exact k1
  have outer : ∀ (n l : Nat) (t : St), nw t = nw τ → FrM τ t → l ≤ nl (nw τ) → nl (nw τ) - l < n → ∃ t', f_X8_spare_4 F n t (nI (spF (nw τ) l)) (nI l) = some (nI (spF (nw τ) (nl (nw τ))), t') ∧ FrM τ t' ∧ nw t' = nw τ := by
    intro n
    induction n with
    | zero => intro l t _ _ _ h; omega
    | succ n ih =>
      intro l t hN hFr hl hn
      have h2 : t.2.1 19 2 = nI (nl (nw τ)) := by rw [show t.2.1 19 = nw τ from hN]; exact h.1.2.2.1.1
      rw [f_X8_spare_4]
      by_cases e : l = nl (nw τ)
      · refine ⟨t, ?_, hFr, hN⟩
        rw [e]
        simp (disch := omega) only [↓bnd_i, ↓cal_s, ↓cal_n, ↓cal2_s, ↓cal2_n, cal_s, cal2_s, ↓reduceIte, fa_lit, m1_lit, m2_lit, m1_lt, m2_lt, m1_eq, m2_eq, m1_le, m2_le, le_m1, le_m2, lt_m1, lt_m2, m12, m21, m1_m1, n_lt, n_le, n_eq, lt_t, lt_f, le_t, le_f, eq_t, eq_f, n_cl, inb_ok, n_add, pk_mul, pk_sub, n_rem, n_div, n_dec, n_mx, n_mn, eq_m1, eq_m2, ss_same, ss_ne, ss_r, ss_l, sr_f, sr_l, sr_same, sr_ne, sw_f, sw_l, sw_at, sw_ne, pk_us, pk_un, bI_t, bI_f, not_true_eq_false, not_false_eq_true, eq_self, and_true, true_and, and_false, false_and, or_true, true_or, or_false, false_or, decide_true, decide_false, Bool.false_eq_true, Bool.true_eq_false, h2]
      · have hle := spF_le (N := nw τ) l
        obtain ⟨u, k1, k2, k3⟩ := inner (f_X8_spare_4 F n) l (spF (nw τ) l) (by omega) (by omega) F 0 t hN hFr (by omega) (by omega)
        rw [show fb_ct (spt (nw τ) l) 0 = 0 from rfl, Nat.add_zero] at k1
        obtain ⟨t', g1, g2, g3⟩ := ih (l + 1) u k3 k2 (by omega) (by omega)
        refine ⟨t', ?_, g2, g3⟩
        simp (disch := omega) only [↓bnd_i, ↓cal_s, ↓cal_n, ↓cal2_s, ↓cal2_n, cal_s, cal2_s, ↓reduceIte, fa_lit, m1_lit, m2_lit, m1_lt, m2_lt, m1_eq, m2_eq, m1_le, m2_le, le_m1, le_m2, lt_m1, lt_m2, m12, m21, m1_m1, n_lt, n_le, n_eq, lt_t, lt_f, le_t, le_f, eq_t, eq_f, n_cl, inb_ok, n_add, pk_mul, pk_sub, n_rem, n_div, n_dec, n_mx, n_mn, eq_m1, eq_m2, ss_same, ss_ne, ss_r, ss_l, sr_f, sr_l, sr_same, sr_ne, sw_f, sw_l, sw_at, sw_ne, pk_us, pk_un, bI_t, bI_f, not_true_eq_false, not_false_eq_true, eq_self, and_true, true_and, and_false, false_and, or_true, true_or, or_false, false_or, decide_true, decide_false, Bool.false_eq_true, Bool.true_eq_false, h2]
        rw [k1]
        exact g1
  exact outer F 0 τ rfl (FrM.refl τ) (by omega) (by omega)
/-- the needed pieces of the way that are kept -/
def ndd (N : Nat → Int32) (k : Nat) : Bool := kpt N (hd N (nl N - 1) k) k && inR N k
theorem sp_swap {P : Nat → Nat → Bool} {f : Nat → Nat} {m : Nat} : ∀ n, fb_sm (fun l => fb_ct (fun k => P l k && decide (f k = l)) m) n = fb_ct (fun k => P (f k) k && decide (f k < n)) m
  | 0 => by
    rw [show fb_sm (fun l => fb_ct (fun k => P l k && decide (f k = l)) m) 0 = 0 from rfl]
    exact (fb_ct_zero.mpr (fun k _ => by rw [decide_eq_false (by omega), Bool.and_false])).symm
  | n + 1 => by
    rw [fb_sm_succ, sp_swap n, ← fb_ct_or]
    · refine fb_ct_cong (fun k _ => ?_)
      by_cases e : f k = n
      · rw [decide_eq_false (show ¬ f k < n by omega), decide_eq_true e, decide_eq_true (show f k < n + 1 by omega), Bool.and_false, Bool.false_or, e]
      · rw [decide_eq_false e, Bool.and_false, Bool.or_false]
        congr 1
        exact decide_eq_decide.mpr (by omega)
    · rintro k _ ⟨h1, h2⟩
      rw [Bool.and_eq_true, decide_eq_true_eq] at h1 h2
      omega
theorem sp_sum {N : Nat → Int32} (h : NN N) : spF N (nl N) + fb_ct (ndd N) 120 = ksF N (nl N) := by
  obtain ⟨b1, b2, b3, b4, b5, b6, b7, b8⟩ := NNb h
  have e1 : fb_ct (ndd N) 120 = fb_sm (fun l => fb_ct (fun k => (kpt N l k && inR N k) && decide (hd N (nl N - 1) k = l)) 120) (nl N) := by
    rw [sp_swap (P := fun l k => kpt N l k && inR N k) (f := fun k => hd N (nl N - 1) k)]
    refine fb_ct_cong (fun k _ => ?_)
    have := hd_lt h (k := k) (show nl N - 1 < nl N by omega)
    rw [decide_eq_true (show hd N (nl N - 1) k < nl N by omega), Bool.and_true]
    rfl
  rw [e1]
  unfold spF ksF
  rw [← fb_sm_add]
  refine fb_sm_cong (fun l _ => ?_)
  rw [← fb_ct_or]
  · refine fb_ct_cong (fun k _ => ?_)
    unfold spt
    cases kpt N l k <;> cases inR N k <;> cases decide (hd N (nl N - 1) k = l) <;> rfl
  · rintro k _ ⟨h1, h2⟩
    unfold spt at h1
    cases q1 : kpt N l k <;> cases q2 : inR N k <;> cases q3 : decide (hd N (nl N - 1) k = l) <;> rw [q1, q2, q3] at h1 h2 <;> first | exact absurd h2 (by decide) | exact absurd h1 (by decide)
theorem pE_le {N : Nat → Int32} (h : NN N) : pE N ≤ 120 := by
  obtain ⟨b1, b2, b3, b4, b5, b6, b7, b8⟩ := NNb h
  have ht := (h.2.1.1 (nl N - 1) (by omega)).2
  unfold pE
  split
  · omega
  · have := div120 (p := tp N (nl N - 1)) (w := wd N) (by omega) b3 (by omega)
    omega
theorem d_spareL {F : Nat} (hF : 300 < F) {σ : St} {N : Nat → Int32} (h : NN N) (j : JJ σ N) : ∀ n k, frF N (nc N) ≤ k → k ≤ 120 → 120 - k < n → f_X7_spare_73 F n σ (nI (fb_ct (ndd N) k)) (nI (nl N - 1)) (eX (pE N)) (nI k) = some (nI (spF N (nl N)), σ) := by
  obtain ⟨b1, b2, b3, b4, b5, b6, b7, b8⟩ := NNb h
  have hE := pE_le h
  have hg : nl N - 1 < nl N := by omega
  have ht := (h.2.1.1 (nl N - 1) hg).2
  intro n
  induction n with
  | zero => intro k _ _ h; omega
  | succ n ih =>
    intro k hf hk hn
    rw [f_X7_spare_73]
    by_cases e : pE N ≤ k
    · have sp := fb_ct_split (ndd N) k (120 - k)
      rw [show k + (120 - k) = 120 by omega] at sp
      have z : fb_ct (fun i => ndd N (k + i)) (120 - k) = 0 := fb_ct_zero.mpr (fun i _ => by unfold ndd inR; rw [decide_eq_false (by omega), Bool.and_false])
      have ss' := sp_sum h
      have hks := ksF_le (N := N) (nl N)
      have er : nI (ksF N (nl N)) - nI (fb_ct (ndd N) k) = nI (spF N (nl N)) := by rw [pk_sub (by omega)]; congr 1; omega
      by_cases e0 : pE N = 0
      · rw [eX_0 e0]
        simp (disch := omega) only [↓bnd_i, ↓cal_s, ↓cal_n, ↓cal2_s, ↓cal2_n, cal_s, cal2_s, ↓reduceIte, fa_lit, m1_lit, m2_lit, m1_lt, m2_lt, m1_eq, m2_eq, m1_le, m2_le, le_m1, le_m2, lt_m1, lt_m2, m12, m21, m1_m1, n_lt, n_le, n_eq, lt_t, lt_f, le_t, le_f, eq_t, eq_f, n_cl, inb_ok, n_add, pk_mul, pk_sub, n_rem, n_div, n_dec, n_mx, n_mn, eq_m1, eq_m2, ss_same, ss_ne, ss_r, ss_l, sr_f, sr_l, sr_same, sr_ne, sw_f, sw_l, sw_at, sw_ne, pk_us, pk_un, bI_t, bI_f, not_true_eq_false, not_false_eq_true, eq_self, and_true, true_and, and_false, false_and, or_true, true_or, or_false, false_or, decide_true, decide_false, Bool.false_eq_true, Bool.true_eq_false, ↓cal_w (d_keptPieces hF h j), d_keptPieces hF h j, er]
      · rw [eX_s e0]
        simp (disch := omega) only [↓bnd_i, ↓cal_s, ↓cal_n, ↓cal2_s, ↓cal2_n, cal_s, cal2_s, ↓reduceIte, fa_lit, m1_lit, m2_lit, m1_lt, m2_lt, m1_eq, m2_eq, m1_le, m2_le, le_m1, le_m2, lt_m1, lt_m2, m12, m21, m1_m1, n_lt, n_le, n_eq, lt_t, lt_f, le_t, le_f, eq_t, eq_f, n_cl, inb_ok, n_add, pk_mul, pk_sub, n_rem, n_div, n_dec, n_mx, n_mn, eq_m1, eq_m2, ss_same, ss_ne, ss_r, ss_l, sr_f, sr_l, sr_same, sr_ne, sw_f, sw_l, sw_at, sw_ne, pk_us, pk_un, bI_t, bI_f, not_true_eq_false, not_false_eq_true, eq_self, and_true, true_and, and_false, false_and, or_true, true_or, or_false, false_or, decide_true, decide_false, Bool.false_eq_true, Bool.true_eq_false, ↓cal_w (d_keptPieces hF h j), d_keptPieces hF h j, er]
    · rw [eX_s (by omega)]
      have hk' : k < 120 := by omega
      have hd' := hd_lt h (k := k) hg
      have hkw : k * wd N < tp N (nl N - 1) := by
        have hE' : pE N = (tp N (nl N - 1) - 1) / wd N + 1 := by
          unfold pE at e ⊢
          by_cases q : tp N (nl N - 1) = 0
          · rw [if_pos q] at e; omega
          · exact if_neg q
        have hp1 : tp N (nl N - 1) ≠ 0 := fun q => by unfold pE at e; rw [if_pos q] at e; omega
        have := (Nat.le_div_iff_mul_le (x := k) (y := tp N (nl N - 1) - 1) (show 0 < wd N by omega)).mp (by omega)
        omega
      have w1 := d_keeperOf (F := F) (by omega) h j hg hk'
      have w2 := d_conditionOf (F := F) h j (show hd N (nl N - 1) k < nl N by omega) hk'
      rw [hd_in h _ hg hkw] at w2
      simp only [if_true] at w2
      have hkp := h.2.2.1.1 (hd N (nl N - 1) k) k (by omega) hk'
      have hk4 := hkp.2
      have ih' := ih (k + 1) (by omega) (by omega) (by omega)
      rw [eX_s (by omega), fb_ct_succ] at ih'
      have hct := fb_ct_le (ndd N) k
      by_cases z : kp N (hd N (nl N - 1) k) k = 0
      · rw [show ndd N k = false by unfold ndd kpt; rw [decide_eq_false (by omega)]; rfl] at ih'
        simp only [Bool.false_eq_true, if_false, Nat.add_zero] at ih'
        simp (disch := omega) only [↓bnd_i, ↓cal_s, ↓cal_n, ↓cal2_s, ↓cal2_n, cal_s, cal2_s, ↓reduceIte, fa_lit, m1_lit, m2_lit, m1_lt, m2_lt, m1_eq, m2_eq, m1_le, m2_le, le_m1, le_m2, lt_m1, lt_m2, m12, m21, m1_m1, n_lt, n_le, n_eq, lt_t, lt_f, le_t, le_f, eq_t, eq_f, n_cl, inb_ok, n_add, pk_mul, pk_sub, n_rem, n_div, n_dec, n_mx, n_mn, eq_m1, eq_m2, ss_same, ss_ne, ss_r, ss_l, sr_f, sr_l, sr_same, sr_ne, sw_f, sw_l, sw_at, sw_ne, pk_us, pk_un, bI_t, bI_f, not_true_eq_false, not_false_eq_true, eq_self, and_true, true_and, and_false, false_and, or_true, true_or, or_false, false_or, decide_true, decide_false, Bool.false_eq_true, Bool.true_eq_false, ↓cal_w (w1), w1, ↓cal_w (w2), w2, f_X7_spare_109, Nat.add_zero]
        exact ih'
      · rw [show ndd N k = true by unfold ndd kpt inR; rw [decide_eq_true (by omega), decide_eq_true (by omega)]; rfl] at ih'
        simp only [if_true] at ih'
        simp (disch := omega) only [↓bnd_i, ↓cal_s, ↓cal_n, ↓cal2_s, ↓cal2_n, cal_s, cal2_s, ↓reduceIte, fa_lit, m1_lit, m2_lit, m1_lt, m2_lt, m1_eq, m2_eq, m1_le, m2_le, le_m1, le_m2, lt_m1, lt_m2, m12, m21, m1_m1, n_lt, n_le, n_eq, lt_t, lt_f, le_t, le_f, eq_t, eq_f, n_cl, inb_ok, n_add, pk_mul, pk_sub, n_rem, n_div, n_dec, n_mx, n_mn, eq_m1, eq_m2, ss_same, ss_ne, ss_r, ss_l, sr_f, sr_l, sr_same, sr_ne, sw_f, sw_l, sw_at, sw_ne, pk_us, pk_un, bI_t, bI_f, not_true_eq_false, not_false_eq_true, eq_self, and_true, true_and, and_false, false_and, or_true, true_or, or_false, false_or, decide_true, decide_false, Bool.false_eq_true, Bool.true_eq_false, ↓cal_w (w1), w1, ↓cal_w (w2), w2, f_X7_spare_109]
        exact ih'
theorem op_spare {F : Nat} (hF : 300 < F) {σ τ : St} (C : Core σ τ) : Op σ τ (f_X7_spare F σ) (f_X8_spare F τ) := by
  obtain ⟨b1, b2, b3, b4, b5, b6, b7, b8⟩ := NNb C.1
  obtain ⟨u, g1, g2, g3⟩ := t_spare (F := F) hF C.1
  have hg : nl (nw τ) - 1 < nl (nw τ) := by omega
  have ht := (C.1.2.1.1 (nl (nw τ) - 1) hg).2
  have key : ∀ (n c : Nat) (t : St), JJ t (nw τ) → Fr σ t → c ≤ nc (nw τ) → nc (nw τ) - c < n → ∃ t', f_X7_spare_5 F n t (nI (frF (nw τ) c)) (nI c) = some (nI (spF (nw τ) (nl (nw τ))), t') ∧ JJ t' (nw τ) ∧ Fr σ t' := by
    intro n
    induction n with
    | zero => intro c t _ _ _ h; omega
    | succ n ih =>
      intro c t hJ hFr hc hn
      have e8 := (JJf C.1 hJ).2.2.2.2
      have hfl := frF_le (N := nw τ) c
      rw [f_X7_spare_5]
      by_cases e : c = nc (nw τ)
      · refine ⟨t, ?_, hJ, hFr⟩
        have z : fb_ct (ndd (nw τ)) (frF (nw τ) c) = 0 := fb_ct_zero.mpr (fun k hk => by unfold ndd inR; rw [← e, decide_eq_false (by omega), Bool.and_false])
        have k := d_spareL (F := F) hF C.1 hJ F (frF (nw τ) c) (by rw [e]; exact Nat.le_refl _) hfl (by omega)
        rw [z] at k
        rw [← e] at e8
        by_cases t0 : tp (nw τ) (nl (nw τ) - 1) = 0
        · have hE : pE (nw τ) = 0 := by unfold pE; exact if_pos t0
          rw [eX_0 hE] at k
          have dn := d_now (F := F) C.1.1 hJ.1
          rw [t0] at dn
          simp (disch := omega) only [↓bnd_i, ↓cal_s, ↓cal_n, ↓cal2_s, ↓cal2_n, cal_s, cal2_s, ↓reduceIte, fa_lit, m1_lit, m2_lit, m1_lt, m2_lt, m1_eq, m2_eq, m1_le, m2_le, le_m1, le_m2, lt_m1, lt_m2, m12, m21, m1_m1, n_lt, n_le, n_eq, lt_t, lt_f, le_t, le_f, eq_t, eq_f, n_cl, inb_ok, n_add, pk_mul, pk_sub, n_rem, n_div, n_dec, n_mx, n_mn, eq_m1, eq_m2, ss_same, ss_ne, ss_r, ss_l, sr_f, sr_l, sr_same, sr_ne, sw_f, sw_l, sw_at, sw_ne, pk_us, pk_un, bI_t, bI_f, not_true_eq_false, not_false_eq_true, eq_self, and_true, true_and, and_false, false_and, or_true, true_or, or_false, false_or, decide_true, decide_false, Bool.false_eq_true, Bool.true_eq_false, ↓cal_w (d_going C.1 hJ), d_going C.1 hJ, ↓cal_w (dn), dn, ↓cal_w (d_pieceHolding0 (σ := t)), d_pieceHolding0 (σ := t), e8]
          exact k
        · have hE : pE (nw τ) = (tp (nw τ) (nl (nw τ) - 1) - 1) / wd (nw τ) + 1 := by unfold pE; exact if_neg t0
          rw [eX_s (fun z => Nat.succ_ne_zero _ (hE.symm.trans z)), hE, Nat.add_sub_cancel] at k
          simp (disch := omega) only [↓bnd_i, ↓cal_s, ↓cal_n, ↓cal2_s, ↓cal2_n, cal_s, cal2_s, ↓reduceIte, fa_lit, m1_lit, m2_lit, m1_lt, m2_lt, m1_eq, m2_eq, m1_le, m2_le, le_m1, le_m2, lt_m1, lt_m2, m12, m21, m1_m1, n_lt, n_le, n_eq, lt_t, lt_f, le_t, le_f, eq_t, eq_f, n_cl, inb_ok, n_add, pk_mul, pk_sub, n_rem, n_div, n_dec, n_mx, n_mn, eq_m1, eq_m2, ss_same, ss_ne, ss_r, ss_l, sr_f, sr_l, sr_same, sr_ne, sw_f, sw_l, sw_at, sw_ne, pk_us, pk_un, bI_t, bI_f, not_true_eq_false, not_false_eq_true, eq_self, and_true, true_and, and_false, false_and, or_true, true_or, or_false, false_or, decide_true, decide_false, Bool.false_eq_true, Bool.true_eq_false, ↓cal_w (d_going C.1 hJ), d_going C.1 hJ, ↓cal_w (d_now C.1.1 hJ.1), d_now C.1.1 hJ.1, ↓cal_w (d_pieceHolding C.1 hJ (show 1 ≤ tp (nw τ) (nl (nw τ) - 1) by omega) (by omega)), d_pieceHolding C.1 hJ (show 1 ≤ tp (nw τ) (nl (nw τ) - 1) by omega) (by omega), e8]
          exact k
      · obtain ⟨u, a1, a2, a3⟩ := d_firstPinnedBy (F := F) hF C.1 hJ (show c < nc (nw τ) by omega)
        obtain ⟨t', k1, k2, k3⟩ := ih (c + 1) u a2 (hFr.trans a3) (by omega) (by omega)
        refine ⟨t', ?_, k2, k3⟩
        cases d : pin (nw τ) c with
        | none =>
          rw [d] at a1
          rw [frF_n d] at k1
          simp (disch := omega) only [↓bnd_i, ↓cal_s, ↓cal_n, ↓cal2_s, ↓cal2_n, cal_s, cal2_s, ↓reduceIte, fa_lit, m1_lit, m2_lit, m1_lt, m2_lt, m1_eq, m2_eq, m1_le, m2_le, le_m1, le_m2, lt_m1, lt_m2, m12, m21, m1_m1, n_lt, n_le, n_eq, lt_t, lt_f, le_t, le_f, eq_t, eq_f, n_cl, inb_ok, n_add, pk_mul, pk_sub, n_rem, n_div, n_dec, n_mx, n_mn, eq_m1, eq_m2, ss_same, ss_ne, ss_r, ss_l, sr_f, sr_l, sr_same, sr_ne, sw_f, sw_l, sw_at, sw_ne, pk_us, pk_un, bI_t, bI_f, not_true_eq_false, not_false_eq_true, eq_self, and_true, true_and, and_false, false_and, or_true, true_or, or_false, false_or, decide_true, decide_false, Bool.false_eq_true, Bool.true_eq_false, ↓cal2_w (a1), a1, e8, wX, f_X7_spare_37]
          exact k1
        | some f =>
          rw [d] at a1
          rw [frF_s d] at k1
          have hf := (pin_s C.1 d).2.2.2.2
          simp (disch := omega) only [↓bnd_i, ↓cal_s, ↓cal_n, ↓cal2_s, ↓cal2_n, cal_s, cal2_s, ↓reduceIte, fa_lit, m1_lit, m2_lit, m1_lt, m2_lt, m1_eq, m2_eq, m1_le, m2_le, le_m1, le_m2, lt_m1, lt_m2, m12, m21, m1_m1, n_lt, n_le, n_eq, lt_t, lt_f, le_t, le_f, eq_t, eq_f, n_cl, inb_ok, n_add, pk_mul, pk_sub, n_rem, n_div, n_dec, n_mx, n_mn, eq_m1, eq_m2, ss_same, ss_ne, ss_r, ss_l, sr_f, sr_l, sr_same, sr_ne, sw_f, sw_l, sw_at, sw_ne, pk_us, pk_un, bI_t, bI_f, not_true_eq_false, not_false_eq_true, eq_self, and_true, true_and, and_false, false_and, or_true, true_or, or_false, false_or, decide_true, decide_false, Bool.false_eq_true, Bool.true_eq_false, ↓cal2_w (a1), a1, e8, wX, f_X7_spare_37]
          exact k1
  obtain ⟨t, k1, k2, k3⟩ := key F 0 σ C.2 (Fr.refl σ) (by omega) (by omega)
  have k1' : f_X7_spare F σ = _ := k1
  rw [k1', g1]
  exact opA C k2 k3 g2 g3 _
