/-! PURE: the head of a text, and its numbers -/
def hO (kd : Nat → Nat) (a : Nat) : Nat × Nat := biO (nxO a) (fun b => biO (exO kd 20 b) (exO kd 21))
section
variable {F : Nat} {kd vl pl : Nat → Nat} {e : Nat}
theorem hO_1 {a : Nat} (h : (hO kd a).1 = 0) : a < 400 ∧ kd (a + 1) = 20 ∧ a + 1 < 400 ∧ kd (a + 2) = 21 ∧ a + 2 < 400 ∧ (hO kd a).2 = a + 3 := by
  unfold hO at h ⊢
  by_cases c : (nxO a).1 = 0
  · rw [biO_0 c] at h ⊢
    obtain ⟨c1, c2⟩ := nxO_1 c
    rw [c2] at h ⊢
    by_cases d : (exO kd 20 (a + 1)).1 = 0
    · rw [biO_0 d] at h ⊢
      obtain ⟨d1, d2, d3⟩ := exO_1 d
      rw [d3] at h ⊢
      obtain ⟨f1, f2, f3⟩ := exO_1 h
      exact ⟨c1, d1, d2, f1, f2, by omega⟩
    · rw [biO_n d] at h; exact absurd h d
  · rw [biO_n c] at h; exact absurd h c
theorem hO_g (E : TkE kd vl pl e) {a : Nat} (h1 : a < e) (h2 : a ≤ 400) : gO e (hO kd a) := by
  unfold hO
  have ga := nxO_g h1 h2
  by_cases c : (nxO a).1 = 0
  · rw [biO_0 c]
    have gb := exO_g E (t := 20) (by omega) ga.2.1 ga.2.2
    by_cases d : (exO kd 20 (nxO a).2).1 = 0
    · rw [biO_0 d]; exact exO_g E (by omega) gb.2.1 gb.2.2
    · rw [biO_n d]; exact gb
  · rw [biO_n c]; exact ga
theorem d_hd (E : TkE kd vl pl e) {σ : St} (D : TkD kd vl pl e σ) {a : Nat} (h1 : a < e) (h2 : a ≤ 400) (h20 : σ.1 20 = nI a) (Kc : St → Option (Int32 × St)) : ∃ σ', DO pl (hO kd a) σ σ' ∧ (cal2 (f_X1_goOver F σ) (fun r5 t6 => if r5 = nI 0 then (some (nI 0, t6)) else (cal2 (f_X1_expect F t6 (nI 20)) (fun r8 t9 => if r8 = nI 0 then (some (nI 0, t9)) else (cal2 (f_X1_expect F t9 (nI 21)) (fun r11 t12 => if r11 = nI 0 then (some (nI 0, t12)) else (Kc t12))))))) = if (hO kd a).1 = 0 then Kc σ' else some (nI 0, σ') := by
  obtain ⟨σ1, g1, g2⟩ := d_goO (F := F) E D (by omega) h20
  have ga := nxO_g h1 h2
  unfold hO
  by_cases c : (nxO a).1 = 0
  · rw [decide_eq_true c] at g1
    have es := g2.1 c
    obtain ⟨σ2, q1, q2⟩ := d_expO (F := F) E (D.fr g2.fr) (a := (nxO a).2) (t := 20) ga.2.1 (by rw [es, ss_same]) (by omega)
    have gb := exO_g E (t := 20) (by omega) ga.2.1 ga.2.2
    by_cases c2 : (exO kd 20 (nxO a).2).1 = 0
    · rw [decide_eq_true c2] at q1
      have es2 := q2.1 c2
      obtain ⟨σ3, r1, r2⟩ := d_expO (F := F) E (((D.fr g2.fr).fr q2.fr)) (a := (exO kd 20 (nxO a).2).2) (t := 21) gb.2.1 (by rw [es2, ss_same]) (by omega)
      have bb := DO.bi (f := fun b => biO (exO kd 20 b) (exO kd 21)) g2 c (DO.bi q2 c2 r2)
      refine ⟨σ3, bb, ?_⟩
      rw [biO_0 c, biO_0 c2]
      cases d3 : decide ((exO kd 21 (exO kd 20 (nxO a).2).2).1 = 0)
      · rw [d3] at r1
        rw [if_neg (of_decide_eq_false d3)]
        simp (disch := omega) only [↓bnd_i, ↓cal_s, ↓cal_n, ↓cal2_s, ↓cal2_n, cal_s, cal2_s, ↓reduceIte, fa_lit, m1_lit, m2_lit, m1_lt, m2_lt, m1_eq, m2_eq, m1_le, m2_le, le_m1, le_m2, lt_m1, lt_m2, m12, m21, m1_m1, n_lt, n_le, n_eq, lt_t, lt_f, le_t, le_f, eq_t, eq_f, n_cl, inb_ok, n_add, pk_mul, pk_sub, n_rem, n_div, n_dec, n_mx, n_mn, eq_m1, eq_m2, ss_same, ss_ne, ss_r, ss_l, sr_f, sr_l, sr_same, sr_ne, sw_f, sw_l, sw_at, sw_ne, pk_us, pk_un, bI_t, bI_f, not_true_eq_false, not_false_eq_true, eq_self, and_true, true_and, and_false, false_and, or_true, true_or, or_false, false_or, decide_true, decide_false, Bool.false_eq_true, Bool.true_eq_false, ↓cal2_w (show f_X1_goOver F σ = some (nI 1, σ1) from g1), show f_X1_goOver F σ = some (nI 1, σ1) from g1, ↓cal2_w (show f_X1_expect F σ1 (nI 20) = some (nI 1, σ2) from q1), show f_X1_expect F σ1 (nI 20) = some (nI 1, σ2) from q1, ↓cal2_w (show f_X1_expect F σ2 (nI 21) = some (nI 0, σ3) from r1), show f_X1_expect F σ2 (nI 21) = some (nI 0, σ3) from r1]
      · rw [d3] at r1
        rw [if_pos (of_decide_eq_true d3)]
        simp (disch := omega) only [↓bnd_i, ↓cal_s, ↓cal_n, ↓cal2_s, ↓cal2_n, cal_s, cal2_s, ↓reduceIte, fa_lit, m1_lit, m2_lit, m1_lt, m2_lt, m1_eq, m2_eq, m1_le, m2_le, le_m1, le_m2, lt_m1, lt_m2, m12, m21, m1_m1, n_lt, n_le, n_eq, lt_t, lt_f, le_t, le_f, eq_t, eq_f, n_cl, inb_ok, n_add, pk_mul, pk_sub, n_rem, n_div, n_dec, n_mx, n_mn, eq_m1, eq_m2, ss_same, ss_ne, ss_r, ss_l, sr_f, sr_l, sr_same, sr_ne, sw_f, sw_l, sw_at, sw_ne, pk_us, pk_un, bI_t, bI_f, not_true_eq_false, not_false_eq_true, eq_self, and_true, true_and, and_false, false_and, or_true, true_or, or_false, false_or, decide_true, decide_false, Bool.false_eq_true, Bool.true_eq_false, ↓cal2_w (show f_X1_goOver F σ = some (nI 1, σ1) from g1), show f_X1_goOver F σ = some (nI 1, σ1) from g1, ↓cal2_w (show f_X1_expect F σ1 (nI 20) = some (nI 1, σ2) from q1), show f_X1_expect F σ1 (nI 20) = some (nI 1, σ2) from q1, ↓cal2_w (show f_X1_expect F σ2 (nI 21) = some (nI 1, σ3) from r1), show f_X1_expect F σ2 (nI 21) = some (nI 1, σ3) from r1]
    · have bb := DO.bi (f := fun b => biO (exO kd 20 b) (exO kd 21)) g2 c (DO.bn q2 c2)
      rw [decide_eq_false c2] at q1
      refine ⟨σ2, bb, ?_⟩
      rw [biO_0 c, biO_n c2, if_neg c2]
      simp (disch := omega) only [↓bnd_i, ↓cal_s, ↓cal_n, ↓cal2_s, ↓cal2_n, cal_s, cal2_s, ↓reduceIte, fa_lit, m1_lit, m2_lit, m1_lt, m2_lt, m1_eq, m2_eq, m1_le, m2_le, le_m1, le_m2, lt_m1, lt_m2, m12, m21, m1_m1, n_lt, n_le, n_eq, lt_t, lt_f, le_t, le_f, eq_t, eq_f, n_cl, inb_ok, n_add, pk_mul, pk_sub, n_rem, n_div, n_dec, n_mx, n_mn, eq_m1, eq_m2, ss_same, ss_ne, ss_r, ss_l, sr_f, sr_l, sr_same, sr_ne, sw_f, sw_l, sw_at, sw_ne, pk_us, pk_un, bI_t, bI_f, not_true_eq_false, not_false_eq_true, eq_self, and_true, true_and, and_false, false_and, or_true, true_or, or_false, false_or, decide_true, decide_false, Bool.false_eq_true, Bool.true_eq_false, ↓cal2_w (show f_X1_goOver F σ = some (nI 1, σ1) from g1), show f_X1_goOver F σ = some (nI 1, σ1) from g1, ↓cal2_w (show f_X1_expect F σ1 (nI 20) = some (nI 0, σ2) from q1), show f_X1_expect F σ1 (nI 20) = some (nI 0, σ2) from q1]
  · rw [decide_eq_false c] at g1
    have bb := DO.bn (f := fun b => biO (exO kd 20 b) (exO kd 21)) g2 c
    refine ⟨σ1, bb, ?_⟩
    rw [biO_n c, if_neg c]
    simp (disch := omega) only [↓bnd_i, ↓cal_s, ↓cal_n, ↓cal2_s, ↓cal2_n, cal_s, cal2_s, ↓reduceIte, fa_lit, m1_lit, m2_lit, m1_lt, m2_lt, m1_eq, m2_eq, m1_le, m2_le, le_m1, le_m2, lt_m1, lt_m2, m12, m21, m1_m1, n_lt, n_le, n_eq, lt_t, lt_f, le_t, le_f, eq_t, eq_f, n_cl, inb_ok, n_add, pk_mul, pk_sub, n_rem, n_div, n_dec, n_mx, n_mn, eq_m1, eq_m2, ss_same, ss_ne, ss_r, ss_l, sr_f, sr_l, sr_same, sr_ne, sw_f, sw_l, sw_at, sw_ne, pk_us, pk_un, bI_t, bI_f, not_true_eq_false, not_false_eq_true, eq_self, and_true, true_and, and_false, false_and, or_true, true_or, or_false, false_or, decide_true, decide_false, Bool.false_eq_true, Bool.true_eq_false, ↓cal2_w (show f_X1_goOver F σ = some (nI 0, σ1) from g1), show f_X1_goOver F σ = some (nI 0, σ1) from g1]
/-- the model stands at a place, and all is well -/
def Fn (kd vl pl : Nat → Nat) (e a : Nat) (τ : St) : Prop := TkM kd vl pl e τ ∧ τ.1 6 = nI 0 ∧ τ.1 4 = nI a ∧ τ.1 5 = nI 0 ∧ τ.1 11 = nI 0 ∧ τ.1 12 = nI 0 ∧ τ.1 13 = nI 0 ∧ a ≤ e ∧ a ≤ 400 ∧ WR kd vl pl a τ
/-- the model stands at a fault -/
def Ft (pl : Nat → Nat) (x k : Nat) (τ : St) : Prop := τ.1 6 = nI x ∧ τ.1 7 = nI (pl k) ∧ (1 ≤ x ∧ x ≤ 2)
theorem t_told (E : TkE kd vl pl e) {τ : St} {a w least most : Nat} (N : Fn kd vl pl e a τ) (hw : (w = 0 ∧ least = 1 ∧ most = 8) ∨ (w = 1 ∧ least = 2 ∧ most = 8)) : ∃ v τ', f_X8_toldOr F τ (nI (20 + w)) (nI least) (nI most) (nI 4) = some (v, τ') ∧ FmP τ τ' ∧ (kd a ≠ w → v = nI 4 ∧ τ' = τ) ∧ (kd a = w → ((hO kd a).1 = 0 → v = nI (vl (a + 1)) ∧ Fn kd vl pl e (a + 3) τ') ∧ ((hO kd a).1 ≠ 0 → Ft pl (hO kd a).1 (hO kd a).2 τ')) := by
  have E' := E
  obtain ⟨e1, e2, e3, e4, e5, e6⟩ := E'
  obtain ⟨M, g6, g4, g5, g11, g12, g13, a1, a2, W⟩ := N
  obtain ⟨m, K0⟩ := MK.of E M a1 a2
  have ae : ∀ {x : Nat}, x ≤ e → kd x ≤ 28 → x < e := fun {x} h1 h2 => by
    by_cases z : x = e
    · rw [z] at h2; rcases e3 with y | y <;> omega
    · omega
  have iw : f_X8_is F τ (nI (20 + w)) = some (bI (decide (kd a = w))) := by
    rcases hw with ⟨rfl, -⟩ | ⟨rfl, -⟩
    · have i := t_is (F := F) (x := 20) g6 g4 a2 K0 (by omega)
      rw [K0.i20] at i; exact i
    · have i := t_is (F := F) (x := 21) g6 g4 a2 K0 (by omega)
      rw [K0.i21] at i; exact i
  unfold f_X8_toldOr
  by_cases kw : kd a = w
  · rw [decide_eq_true kw] at iw
    have hae := ae a1 (by omega)
    have go := t_goO (F := F) g6 g4 a2 K0
    by_cases n0 : (nxO a).1 = 0
    · obtain ⟨a4, n2⟩ := nxO_1 n0
      rw [MO_ok n0, n2] at go
      generalize h2 : ss τ 4 (nI (a + 1)) = τ2 at go
      have f2 : FmP τ τ2 := by rw [← h2]; exact (FmP.refl τ).ss (by omega)
      have q6 : τ2.1 6 = nI 0 := by rw [← h2, ss_ne (by omega)]; exact g6
      have q4 : τ2.1 4 = nI (a + 1) := by rw [← h2, ss_same]
      obtain ⟨m1, K1⟩ := MK.of E (M.fr (τ' := τ2) (fun r _ => f2.2.1 r (by omega))) (show a + 1 ≤ e by omega) (by omega)
      have W2 : WR kd vl pl a τ2 := W.step (Nat.le_refl _) (fun n h1 h2 => by omega) (by rw [← h2, ss_ne (by omega)]) (by rw [← h2, ss_ne (by omega)])
      obtain ⟨v, ww, x, b1, b2, b3⟩ := t_bounded (F := F) (least := least) (most := most) E (by omega) q6 q4 (by omega) K1 W2 (by omega) (by omega) (by
        unfold wrg
        rcases hw with ⟨rfl, rfl, rfl⟩ | ⟨rfl, rfl, rfl⟩
        · exact decide_eq_decide.mpr (by omega)
        · exact decide_eq_decide.mpr (by omega))
      generalize h3 : ss (ss τ2 8 ww) 9 x = τ3 at *
      have f3 : FmP τ τ3 := by rw [← h3]; exact (f2.ss (by omega)).ss (by omega)
      have hh : hO kd a = biO (exO kd 20 (a + 1)) (exO kd 21) := by unfold hO; rw [biO_0 n0, n2]
      by_cases x0 : (exO kd 20 (a + 1)).1 = 0
      · obtain ⟨k20, a5, x2⟩ := exO_1 x0
        have hae2 := ae (x := a + 1) (by omega) (by omega)
        rw [MO_ok x0, x2] at b1
        generalize h4 : ss τ3 4 (nI (a + 1 + 1)) = τ4 at b1
        have f4 : FmP τ τ4 := by rw [← h4]; exact f3.ss (by omega)
        have fl4 : ∀ k, k ≠ 4 → k ≠ 8 → k ≠ 9 → τ4.1 k = τ.1 k := fun k z1 z2 z3 => by
          rw [← h4, ss_ne z1, ← h3, ss_ne z3, ss_ne z2, ← h2, ss_ne z1]
        have r4 : τ4.1 4 = nI (a + 1 + 1) := by rw [← h4, ss_same]
        obtain ⟨m2, K2⟩ := MK.of E (M.fr (τ' := τ4) (fun r _ => f4.2.1 r (by omega))) (show a + 1 + 1 ≤ e by omega) (by omega)
        have mu := t_mustO (F := F) (by rw [fl4 6 (by omega) (by omega) (by omega)]; exact g6) r4 (by omega) K2
        have hh2 : hO kd a = exO kd 21 (a + 1 + 1) := by rw [hh, biO_0 x0, x2]
        refine ⟨v, MO pl (exO kd 21 (a + 1 + 1)) τ4, ?_, f4.mo, fun q => absurd kw q, fun _ => ⟨fun q => ?_, fun q => ?_⟩⟩
        · simp (disch := omega) only [↓bnd_i, ↓cal_s, ↓cal_n, ↓cal2_s, ↓cal2_n, cal_s, cal2_s, ↓reduceIte, fa_lit, m1_lit, m2_lit, m1_lt, m2_lt, m1_eq, m2_eq, m1_le, m2_le, le_m1, le_m2, lt_m1, lt_m2, m12, m21, m1_m1, n_lt, n_le, n_eq, lt_t, lt_f, le_t, le_f, eq_t, eq_f, n_cl, inb_ok, n_add, pk_mul, pk_sub, n_rem, n_div, n_dec, n_mx, n_mn, eq_m1, eq_m2, ss_same, ss_ne, ss_r, ss_l, sr_f, sr_l, sr_same, sr_ne, sw_f, sw_l, sw_at, sw_ne, pk_us, pk_un, bI_t, bI_f, not_true_eq_false, not_false_eq_true, eq_self, and_true, true_and, and_false, false_and, or_true, true_or, or_false, false_or, decide_true, decide_false, Bool.false_eq_true, Bool.true_eq_false, ↓cal_w (iw), iw, ↓cal_w (go), go, ↓cal_w (mu), mu, ↓cal2_w (b1), b1]
        · rw [hh2] at q
          obtain ⟨k21, a6, x3⟩ := exO_1 q
          have hae3 := ae (x := a + 1 + 1) (by omega) (by omega)
          rw [MO_ok q, x3]
          refine ⟨b2 k20, M.fr (fun r _ => by rw [ss_r]; exact f4.2.1 r (by omega)), ?_, ss_same, ?_, ?_, ?_, ?_, by omega, by omega, ?_⟩
          · rw [ss_ne (by omega), fl4 6 (by omega) (by omega) (by omega)]; exact g6
          · rw [ss_ne (by omega), fl4 5 (by omega) (by omega) (by omega)]; exact g5
          · rw [ss_ne (by omega), fl4 11 (by omega) (by omega) (by omega)]; exact g11
          · rw [ss_ne (by omega), fl4 12 (by omega) (by omega) (by omega)]; exact g12
          · rw [ss_ne (by omega), fl4 13 (by omega) (by omega) (by omega)]; exact g13
          · refine (b3 x0).step (by omega) (fun n h1 h2 => wrg_n ?_) ?_ ?_
            · rw [show n = a + 1 + 1 by omega, k21]; omega
            · rw [ss_ne (by omega), ← h4, ss_ne (by omega)]
            · rw [ss_ne (by omega), ← h4, ss_ne (by omega)]
        · rw [hh2] at q ⊢
          have gx := exO_g E (t := 21) (by omega) (show a + 1 + 1 ≤ e by omega) (show a + 1 + 1 ≤ 400 by omega)
          rw [MO_fl q]
          exact ⟨by rw [ss_ne (by omega), ss_same], ss_same, by have := gx.1; omega⟩
      · have gx := exO_g E (t := 20) (by omega) (show a + 1 ≤ e by omega) (show a + 1 ≤ 400 by omega)
        have hh2 : hO kd a = exO kd 20 (a + 1) := by rw [hh, biO_n x0]
        rw [MO_fl x0] at b1
        generalize h4 : ss (ss τ3 6 (nI (exO kd 20 (a + 1)).1)) 7 (nI (pl (exO kd 20 (a + 1)).2)) = τ4 at b1
        have r6 : τ4.1 6 = nI (exO kd 20 (a + 1)).1 := by rw [← h4, ss_ne (by omega), ss_same]
        have mu := t_mustF (F := F) (y := nI 4) r6 (by have := gx.1; omega)
        refine ⟨v, τ4, ?_, by rw [← h4]; exact (f3.ss (by omega)).ss (by omega), fun q => absurd kw q, fun _ => ⟨fun q => ?_, fun q => ?_⟩⟩
        · simp (disch := omega) only [↓bnd_i, ↓cal_s, ↓cal_n, ↓cal2_s, ↓cal2_n, cal_s, cal2_s, ↓reduceIte, fa_lit, m1_lit, m2_lit, m1_lt, m2_lt, m1_eq, m2_eq, m1_le, m2_le, le_m1, le_m2, lt_m1, lt_m2, m12, m21, m1_m1, n_lt, n_le, n_eq, lt_t, lt_f, le_t, le_f, eq_t, eq_f, n_cl, inb_ok, n_add, pk_mul, pk_sub, n_rem, n_div, n_dec, n_mx, n_mn, eq_m1, eq_m2, ss_same, ss_ne, ss_r, ss_l, sr_f, sr_l, sr_same, sr_ne, sw_f, sw_l, sw_at, sw_ne, pk_us, pk_un, bI_t, bI_f, not_true_eq_false, not_false_eq_true, eq_self, and_true, true_and, and_false, false_and, or_true, true_or, or_false, false_or, decide_true, decide_false, Bool.false_eq_true, Bool.true_eq_false, ↓cal_w (iw), iw, ↓cal_w (go), go, ↓cal_w (mu), mu, ↓cal2_w (b1), b1]
        · rw [hh2] at q; exact absurd q x0
        · rw [hh2]
          exact ⟨r6, by rw [← h4, ss_same], by have := gx.1; omega⟩
    · obtain ⟨nx1, nx2⟩ := nxO_n n0
      have hh : hO kd a = nxO a := by unfold hO; rw [biO_n n0]
      rw [MO_fl n0] at go
      generalize h2 : ss (ss τ 6 (nI (nxO a).1)) 7 (nI (pl (nxO a).2)) = τ2 at go
      have r6 : τ2.1 6 = nI 2 := by rw [← h2, ss_ne (by omega), ss_same, nx1]
      have b1 := t_boundedF (F := F) (y := nI least) (z := nI most) r6 (by omega)
      have mu := t_mustF (F := F) (y := nI 4) r6 (by omega)
      refine ⟨nI least, τ2, ?_, by rw [← h2]; exact ((FmP.refl τ).ss (by omega)).ss (by omega), fun q => absurd kw q, fun _ => ⟨fun q => ?_, fun q => ?_⟩⟩
      · simp (disch := omega) only [↓bnd_i, ↓cal_s, ↓cal_n, ↓cal2_s, ↓cal2_n, cal_s, cal2_s, ↓reduceIte, fa_lit, m1_lit, m2_lit, m1_lt, m2_lt, m1_eq, m2_eq, m1_le, m2_le, le_m1, le_m2, lt_m1, lt_m2, m12, m21, m1_m1, n_lt, n_le, n_eq, lt_t, lt_f, le_t, le_f, eq_t, eq_f, n_cl, inb_ok, n_add, pk_mul, pk_sub, n_rem, n_div, n_dec, n_mx, n_mn, eq_m1, eq_m2, ss_same, ss_ne, ss_r, ss_l, sr_f, sr_l, sr_same, sr_ne, sw_f, sw_l, sw_at, sw_ne, pk_us, pk_un, bI_t, bI_f, not_true_eq_false, not_false_eq_true, eq_self, and_true, true_and, and_false, false_and, or_true, true_or, or_false, false_or, decide_true, decide_false, Bool.false_eq_true, Bool.true_eq_false, ↓cal_w (iw), iw, ↓cal_w (go), go, ↓cal_w (mu), mu, ↓cal2_w (b1), b1]
      · rw [hh] at q; exact absurd q n0
      · rw [hh]
        exact ⟨by rw [r6, nx1], by rw [← h2, ss_same], by omega⟩
  · rw [decide_eq_false kw] at iw
    refine ⟨nI 4, τ, ?_, FmP.refl τ, fun _ => ⟨rfl, rfl⟩, fun q => absurd q kw⟩
    simp (disch := omega) only [↓bnd_i, ↓cal_s, ↓cal_n, ↓cal2_s, ↓cal2_n, cal_s, cal2_s, ↓reduceIte, fa_lit, m1_lit, m2_lit, m1_lt, m2_lt, m1_eq, m2_eq, m1_le, m2_le, le_m1, le_m2, lt_m1, lt_m2, m12, m21, m1_m1, n_lt, n_le, n_eq, lt_t, lt_f, le_t, le_f, eq_t, eq_f, n_cl, inb_ok, n_add, pk_mul, pk_sub, n_rem, n_div, n_dec, n_mx, n_mn, eq_m1, eq_m2, ss_same, ss_ne, ss_r, ss_l, sr_f, sr_l, sr_same, sr_ne, sw_f, sw_l, sw_at, sw_ne, pk_us, pk_un, bI_t, bI_f, not_true_eq_false, not_false_eq_true, eq_self, and_true, true_and, and_false, false_and, or_true, true_or, or_false, false_or, decide_true, decide_false, Bool.false_eq_true, Bool.true_eq_false, ↓cal_w (iw), iw]
theorem t_toldF {τ : St} {x k : Nat} {y : Int32} (h : Ft pl x k τ) (p q : Int32) : f_X8_toldOr F τ y p q (nI 4) = some (nI 4, τ) := by
  have i := t_isF (F := F) (y := y) h.1 (by have := h.2.2; omega)
  unfold f_X8_toldOr
  simp (disch := omega) only [↓bnd_i, ↓cal_s, ↓cal_n, ↓cal2_s, ↓cal2_n, cal_s, cal2_s, ↓reduceIte, fa_lit, m1_lit, m2_lit, m1_lt, m2_lt, m1_eq, m2_eq, m1_le, m2_le, le_m1, le_m2, lt_m1, lt_m2, m12, m21, m1_m1, n_lt, n_le, n_eq, lt_t, lt_f, le_t, le_f, eq_t, eq_f, n_cl, inb_ok, n_add, pk_mul, pk_sub, n_rem, n_div, n_dec, n_mx, n_mn, eq_m1, eq_m2, ss_same, ss_ne, ss_r, ss_l, sr_f, sr_l, sr_same, sr_ne, sw_f, sw_l, sw_at, sw_ne, pk_us, pk_un, bI_t, bI_f, not_true_eq_false, not_false_eq_true, eq_self, and_true, true_and, and_false, false_and, or_true, true_or, or_false, false_or, decide_true, decide_false, Bool.false_eq_true, Bool.true_eq_false, ↓cal_w (i), i]
/-- the desk's numbers -/
theorem d_numbers (hF : 1000 < F) (E : TkE kd vl pl e) {at_ : Nat} (h1 : at_ ≤ e) (h2 : at_ ≤ 400) : ∀ (n k : Nat) (σ : St), TkD kd vl pl e σ → σ.1 20 = nI at_ → σ.1 21 = nI 0 → k ≤ at_ → at_ - k < n → ∃ σ', f_X1_checkNumbers_2 F n σ (nI k) = some σ' ∧ (((∀ j, k ≤ j → j < at_ → wrg kd vl j = false) ∧ σ' = σ) ∨ ∃ j, k ≤ j ∧ j < at_ ∧ wrg kd vl j = true ∧ (∀ i, k ≤ i → i < j → wrg kd vl i = false) ∧ dFl pl 5 (j + 1) σ σ') := by
  have E' := E
  obtain ⟨e1, e2, e3, e4, e5, e6⟩ := E'
  intro n
  induction n with
  | zero => intro k σ _ _ _ _ h; omega
  | succ n ih =>
    intro k σ D h20 h21 hk hn
    rw [f_X1_checkNumbers_2]
    by_cases c : k = at_
    · refine ⟨σ, ?_, Or.inl ⟨fun j x1 x2 => by omega, rfl⟩⟩
      simp (disch := omega) only [↓bnd_i, ↓cal_s, ↓cal_n, ↓cal2_s, ↓cal2_n, cal_s, cal2_s, ↓reduceIte, fa_lit, m1_lit, m2_lit, m1_lt, m2_lt, m1_eq, m2_eq, m1_le, m2_le, le_m1, le_m2, lt_m1, lt_m2, m12, m21, m1_m1, n_lt, n_le, n_eq, lt_t, lt_f, le_t, le_f, eq_t, eq_f, n_cl, inb_ok, n_add, pk_mul, pk_sub, n_rem, n_div, n_dec, n_mx, n_mn, eq_m1, eq_m2, ss_same, ss_ne, ss_r, ss_l, sr_f, sr_l, sr_same, sr_ne, sw_f, sw_l, sw_at, sw_ne, pk_us, pk_un, bI_t, bI_f, not_true_eq_false, not_false_eq_true, eq_self, and_true, true_and, and_false, false_and, or_true, true_or, or_false, false_or, decide_true, decide_false, Bool.false_eq_true, Bool.true_eq_false, h20]
    · have wk := d_kindAt (F := F) E D (k := k) (by omega)
      have wn := d_numberAt (F := F) E D (k := k + 1) (by omega)
      rw [if_pos (show k + 1 ≤ e by omega)] at wn
      have kl := e2 k (by omega)
      have vb := e4 (k + 1) (by omega)
      have f5 := d_fail (F := F) E D 5 (k := k + 1) (by omega)
      have g80 : ∀ Q, f_X1_checkNumbers_2 F n (ss (ss σ 21 (nI 5)) 22 (nI (pl (k + 1)))) (nI (k + 1)) = Q → f_X1_checkNumbers_80 F (f_X1_checkNumbers_2 F n) σ (nI k) = Q := by
        intro Q h
        unfold f_X1_checkNumbers_80 f_X1_checkNumbers_85 f_X1_checkNumbers_101
        simp (disch := omega) only [↓bnd_i, ↓cal_s, ↓cal_n, ↓cal2_s, ↓cal2_n, cal_s, cal2_s, ↓reduceIte, fa_lit, m1_lit, m2_lit, m1_lt, m2_lt, m1_eq, m2_eq, m1_le, m2_le, le_m1, le_m2, lt_m1, lt_m2, m12, m21, m1_m1, n_lt, n_le, n_eq, lt_t, lt_f, le_t, le_f, eq_t, eq_f, n_cl, inb_ok, n_add, pk_mul, pk_sub, n_rem, n_div, n_dec, n_mx, n_mn, eq_m1, eq_m2, ss_same, ss_ne, ss_r, ss_l, sr_f, sr_l, sr_same, sr_ne, sw_f, sw_l, sw_at, sw_ne, pk_us, pk_un, bI_t, bI_f, not_true_eq_false, not_false_eq_true, eq_self, and_true, true_and, and_false, false_and, or_true, true_or, or_false, false_or, decide_true, decide_false, Bool.false_eq_true, Bool.true_eq_false, ↓cal2_w (f5), f5]
        exact h
      have g84 : ∀ Q, f_X1_checkNumbers_2 F n σ (nI (k + 1)) = Q → f_X1_checkNumbers_84 F (f_X1_checkNumbers_2 F n) σ (nI k) = Q := by
        intro Q h
        unfold f_X1_checkNumbers_84 f_X1_checkNumbers_85 f_X1_checkNumbers_101
        simp (disch := omega) only [↓bnd_i, ↓cal_s, ↓cal_n, ↓cal2_s, ↓cal2_n, cal_s, cal2_s, ↓reduceIte, fa_lit, m1_lit, m2_lit, m1_lt, m2_lt, m1_eq, m2_eq, m1_le, m2_le, le_m1, le_m2, lt_m1, lt_m2, m12, m21, m1_m1, n_lt, n_le, n_eq, lt_t, lt_f, le_t, le_f, eq_t, eq_f, n_cl, inb_ok, n_add, pk_mul, pk_sub, n_rem, n_div, n_dec, n_mx, n_mn, eq_m1, eq_m2, ss_same, ss_ne, ss_r, ss_l, sr_f, sr_l, sr_same, sr_ne, sw_f, sw_l, sw_at, sw_ne, pk_us, pk_un, bI_t, bI_f, not_true_eq_false, not_false_eq_true, eq_self, and_true, true_and, and_false, false_and, or_true, true_or, or_false, false_or, decide_true, decide_false, Bool.false_eq_true, Bool.true_eq_false]
        exact h
      cases w : wrg kd vl k
      · have w' := of_decide_eq_false w
        obtain ⟨σ', q1, q2⟩ := ih (k + 1) σ D h20 h21 (by omega) (by omega)
        refine ⟨σ', ?_, ?_⟩
        · have q84 := g84 _ q1
          have h68 : f_X1_checkNumbers_68 F (f_X1_checkNumbers_2 F n) σ (nI k) (nI (kd k)) (nI (vl (k + 1))) = some σ' := by
            unfold f_X1_checkNumbers_68
            by_cases z : kd k = 12
            · rw [z]
              simp (disch := omega) only [↓bnd_i, ↓cal_s, ↓cal_n, ↓cal2_s, ↓cal2_n, cal_s, cal2_s, ↓reduceIte, fa_lit, m1_lit, m2_lit, m1_lt, m2_lt, m1_eq, m2_eq, m1_le, m2_le, le_m1, le_m2, lt_m1, lt_m2, m12, m21, m1_m1, n_lt, n_le, n_eq, lt_t, lt_f, le_t, le_f, eq_t, eq_f, n_cl, inb_ok, n_add, pk_mul, pk_sub, n_rem, n_div, n_dec, n_mx, n_mn, eq_m1, eq_m2, ss_same, ss_ne, ss_r, ss_l, sr_f, sr_l, sr_same, sr_ne, sw_f, sw_l, sw_at, sw_ne, pk_us, pk_un, bI_t, bI_f, not_true_eq_false, not_false_eq_true, eq_self, and_true, true_and, and_false, false_and, or_true, true_or, or_false, false_or, decide_true, decide_false, Bool.false_eq_true, Bool.true_eq_false]
              exact q84
            · simp (disch := omega) only [↓bnd_i, ↓cal_s, ↓cal_n, ↓cal2_s, ↓cal2_n, cal_s, cal2_s, ↓reduceIte, fa_lit, m1_lit, m2_lit, m1_lt, m2_lt, m1_eq, m2_eq, m1_le, m2_le, le_m1, le_m2, lt_m1, lt_m2, m12, m21, m1_m1, n_lt, n_le, n_eq, lt_t, lt_f, le_t, le_f, eq_t, eq_f, n_cl, inb_ok, n_add, pk_mul, pk_sub, n_rem, n_div, n_dec, n_mx, n_mn, eq_m1, eq_m2, ss_same, ss_ne, ss_r, ss_l, sr_f, sr_l, sr_same, sr_ne, sw_f, sw_l, sw_at, sw_ne, pk_us, pk_un, bI_t, bI_f, not_true_eq_false, not_false_eq_true, eq_self, and_true, true_and, and_false, false_and, or_true, true_or, or_false, false_or, decide_true, decide_false, Bool.false_eq_true, Bool.true_eq_false]
              exact q84
          have h52 : f_X1_checkNumbers_52 F (f_X1_checkNumbers_2 F n) σ (nI k) (nI (kd k)) (nI (vl (k + 1))) = some σ' := by
            unfold f_X1_checkNumbers_52
            by_cases z : kd k = 1
            · rw [z] at h68 ⊢
              simp (disch := omega) only [↓bnd_i, ↓cal_s, ↓cal_n, ↓cal2_s, ↓cal2_n, cal_s, cal2_s, ↓reduceIte, fa_lit, m1_lit, m2_lit, m1_lt, m2_lt, m1_eq, m2_eq, m1_le, m2_le, le_m1, le_m2, lt_m1, lt_m2, m12, m21, m1_m1, n_lt, n_le, n_eq, lt_t, lt_f, le_t, le_f, eq_t, eq_f, n_cl, inb_ok, n_add, pk_mul, pk_sub, n_rem, n_div, n_dec, n_mx, n_mn, eq_m1, eq_m2, ss_same, ss_ne, ss_r, ss_l, sr_f, sr_l, sr_same, sr_ne, sw_f, sw_l, sw_at, sw_ne, pk_us, pk_un, bI_t, bI_f, not_true_eq_false, not_false_eq_true, eq_self, and_true, true_and, and_false, false_and, or_true, true_or, or_false, false_or, decide_true, decide_false, Bool.false_eq_true, Bool.true_eq_false]
              exact h68
            · simp (disch := omega) only [↓bnd_i, ↓cal_s, ↓cal_n, ↓cal2_s, ↓cal2_n, cal_s, cal2_s, ↓reduceIte, fa_lit, m1_lit, m2_lit, m1_lt, m2_lt, m1_eq, m2_eq, m1_le, m2_le, le_m1, le_m2, lt_m1, lt_m2, m12, m21, m1_m1, n_lt, n_le, n_eq, lt_t, lt_f, le_t, le_f, eq_t, eq_f, n_cl, inb_ok, n_add, pk_mul, pk_sub, n_rem, n_div, n_dec, n_mx, n_mn, eq_m1, eq_m2, ss_same, ss_ne, ss_r, ss_l, sr_f, sr_l, sr_same, sr_ne, sw_f, sw_l, sw_at, sw_ne, pk_us, pk_un, bI_t, bI_f, not_true_eq_false, not_false_eq_true, eq_self, and_true, true_and, and_false, false_and, or_true, true_or, or_false, false_or, decide_true, decide_false, Bool.false_eq_true, Bool.true_eq_false]
              exact h68
          by_cases z : kd k = 0
          · rw [z] at wk h52
            simp (disch := omega) only [↓bnd_i, ↓cal_s, ↓cal_n, ↓cal2_s, ↓cal2_n, cal_s, cal2_s, ↓reduceIte, fa_lit, m1_lit, m2_lit, m1_lt, m2_lt, m1_eq, m2_eq, m1_le, m2_le, le_m1, le_m2, lt_m1, lt_m2, m12, m21, m1_m1, n_lt, n_le, n_eq, lt_t, lt_f, le_t, le_f, eq_t, eq_f, n_cl, inb_ok, n_add, pk_mul, pk_sub, n_rem, n_div, n_dec, n_mx, n_mn, eq_m1, eq_m2, ss_same, ss_ne, ss_r, ss_l, sr_f, sr_l, sr_same, sr_ne, sw_f, sw_l, sw_at, sw_ne, pk_us, pk_un, bI_t, bI_f, not_true_eq_false, not_false_eq_true, eq_self, and_true, true_and, and_false, false_and, or_true, true_or, or_false, false_or, decide_true, decide_false, Bool.false_eq_true, Bool.true_eq_false, ↓cal_w (wk), wk, ↓cal_w (wn), wn, h20, h21]
            exact h52
          · simp (disch := omega) only [↓bnd_i, ↓cal_s, ↓cal_n, ↓cal2_s, ↓cal2_n, cal_s, cal2_s, ↓reduceIte, fa_lit, m1_lit, m2_lit, m1_lt, m2_lt, m1_eq, m2_eq, m1_le, m2_le, le_m1, le_m2, lt_m1, lt_m2, m12, m21, m1_m1, n_lt, n_le, n_eq, lt_t, lt_f, le_t, le_f, eq_t, eq_f, n_cl, inb_ok, n_add, pk_mul, pk_sub, n_rem, n_div, n_dec, n_mx, n_mn, eq_m1, eq_m2, ss_same, ss_ne, ss_r, ss_l, sr_f, sr_l, sr_same, sr_ne, sw_f, sw_l, sw_at, sw_ne, pk_us, pk_un, bI_t, bI_f, not_true_eq_false, not_false_eq_true, eq_self, and_true, true_and, and_false, false_and, or_true, true_or, or_false, false_or, decide_true, decide_false, Bool.false_eq_true, Bool.true_eq_false, ↓cal_w (wk), wk, ↓cal_w (wn), wn, h20, h21]
            exact h52
        · rcases q2 with ⟨x1, x2⟩ | ⟨j, x1, x2, x3, x4, x5⟩
          · refine Or.inl ⟨fun j y1 y2 => ?_, x2⟩
            by_cases z : j = k
            · rw [z]; exact w
            · exact x1 j (by omega) y2
          · refine Or.inr ⟨j, by omega, x2, x3, fun i y1 y2 => ?_, x5⟩
            by_cases z : i = k
            · rw [z]; exact w
            · exact x4 i (by omega) y2
      · have w' := of_decide_eq_true w
        obtain ⟨n, rfl⟩ : ∃ k, n = k + 1 := ⟨n - 1, by omega⟩
        have x21 : (ss (ss σ 21 (nI 5)) 22 (nI (pl (k + 1)))).1 21 = nI 5 := by rw [ss_ne (by omega), ss_same]
        have x20 : (ss (ss σ 21 (nI 5)) 22 (nI (pl (k + 1)))).1 20 = nI at_ := by rw [ss_ne (by omega), ss_ne (by omega)]; exact h20
        have fin := g80 (some (ss (ss σ 21 (nI 5)) 22 (nI (pl (k + 1))))) (by
          rw [f_X1_checkNumbers_2]
          by_cases z : at_ ≤ k + 1
          · simp (disch := omega) only [↓bnd_i, ↓cal_s, ↓cal_n, ↓cal2_s, ↓cal2_n, cal_s, cal2_s, ↓reduceIte, fa_lit, m1_lit, m2_lit, m1_lt, m2_lt, m1_eq, m2_eq, m1_le, m2_le, le_m1, le_m2, lt_m1, lt_m2, m12, m21, m1_m1, n_lt, n_le, n_eq, lt_t, lt_f, le_t, le_f, eq_t, eq_f, n_cl, inb_ok, n_add, pk_mul, pk_sub, n_rem, n_div, n_dec, n_mx, n_mn, eq_m1, eq_m2, ss_same, ss_ne, ss_r, ss_l, sr_f, sr_l, sr_same, sr_ne, sw_f, sw_l, sw_at, sw_ne, pk_us, pk_un, bI_t, bI_f, not_true_eq_false, not_false_eq_true, eq_self, and_true, true_and, and_false, false_and, or_true, true_or, or_false, false_or, decide_true, decide_false, Bool.false_eq_true, Bool.true_eq_false, h20]
          · simp (disch := omega) only [↓bnd_i, ↓cal_s, ↓cal_n, ↓cal2_s, ↓cal2_n, cal_s, cal2_s, ↓reduceIte, fa_lit, m1_lit, m2_lit, m1_lt, m2_lt, m1_eq, m2_eq, m1_le, m2_le, le_m1, le_m2, lt_m1, lt_m2, m12, m21, m1_m1, n_lt, n_le, n_eq, lt_t, lt_f, le_t, le_f, eq_t, eq_f, n_cl, inb_ok, n_add, pk_mul, pk_sub, n_rem, n_div, n_dec, n_mx, n_mn, eq_m1, eq_m2, ss_same, ss_ne, ss_r, ss_l, sr_f, sr_l, sr_same, sr_ne, sw_f, sw_l, sw_at, sw_ne, pk_us, pk_un, bI_t, bI_f, not_true_eq_false, not_false_eq_true, eq_self, and_true, true_and, and_false, false_and, or_true, true_or, or_false, false_or, decide_true, decide_false, Bool.false_eq_true, Bool.true_eq_false, h20])
        refine ⟨ss (ss σ 21 (nI 5)) 22 (nI (pl (k + 1))), ?_, Or.inr ⟨k, by omega, by omega, w, fun i y1 y2 => by omega, dFl_mk⟩⟩
        rcases w' with ⟨z1, z2⟩ | ⟨z1, z2⟩ | ⟨z1, z2⟩
        · rw [z1] at wk
          by_cases y : vl (k + 1) < 1
          · simp (disch := omega) only [↓bnd_i, ↓cal_s, ↓cal_n, ↓cal2_s, ↓cal2_n, cal_s, cal2_s, ↓reduceIte, fa_lit, m1_lit, m2_lit, m1_lt, m2_lt, m1_eq, m2_eq, m1_le, m2_le, le_m1, le_m2, lt_m1, lt_m2, m12, m21, m1_m1, n_lt, n_le, n_eq, lt_t, lt_f, le_t, le_f, eq_t, eq_f, n_cl, inb_ok, n_add, pk_mul, pk_sub, n_rem, n_div, n_dec, n_mx, n_mn, eq_m1, eq_m2, ss_same, ss_ne, ss_r, ss_l, sr_f, sr_l, sr_same, sr_ne, sw_f, sw_l, sw_at, sw_ne, pk_us, pk_un, bI_t, bI_f, not_true_eq_false, not_false_eq_true, eq_self, and_true, true_and, and_false, false_and, or_true, true_or, or_false, false_or, decide_true, decide_false, Bool.false_eq_true, Bool.true_eq_false, ↓cal_w (wk), wk, ↓cal_w (wn), wn, h20, h21]
            exact fin
          · simp (disch := omega) only [↓bnd_i, ↓cal_s, ↓cal_n, ↓cal2_s, ↓cal2_n, cal_s, cal2_s, ↓reduceIte, fa_lit, m1_lit, m2_lit, m1_lt, m2_lt, m1_eq, m2_eq, m1_le, m2_le, le_m1, le_m2, lt_m1, lt_m2, m12, m21, m1_m1, n_lt, n_le, n_eq, lt_t, lt_f, le_t, le_f, eq_t, eq_f, n_cl, inb_ok, n_add, pk_mul, pk_sub, n_rem, n_div, n_dec, n_mx, n_mn, eq_m1, eq_m2, ss_same, ss_ne, ss_r, ss_l, sr_f, sr_l, sr_same, sr_ne, sw_f, sw_l, sw_at, sw_ne, pk_us, pk_un, bI_t, bI_f, not_true_eq_false, not_false_eq_true, eq_self, and_true, true_and, and_false, false_and, or_true, true_or, or_false, false_or, decide_true, decide_false, Bool.false_eq_true, Bool.true_eq_false, ↓cal_w (wk), wk, ↓cal_w (wn), wn, h20, h21]
            exact fin
        · rw [z1] at wk
          by_cases y : vl (k + 1) < 2
          · simp (disch := omega) only [↓bnd_i, ↓cal_s, ↓cal_n, ↓cal2_s, ↓cal2_n, cal_s, cal2_s, ↓reduceIte, fa_lit, m1_lit, m2_lit, m1_lt, m2_lt, m1_eq, m2_eq, m1_le, m2_le, le_m1, le_m2, lt_m1, lt_m2, m12, m21, m1_m1, n_lt, n_le, n_eq, lt_t, lt_f, le_t, le_f, eq_t, eq_f, n_cl, inb_ok, n_add, pk_mul, pk_sub, n_rem, n_div, n_dec, n_mx, n_mn, eq_m1, eq_m2, ss_same, ss_ne, ss_r, ss_l, sr_f, sr_l, sr_same, sr_ne, sw_f, sw_l, sw_at, sw_ne, pk_us, pk_un, bI_t, bI_f, not_true_eq_false, not_false_eq_true, eq_self, and_true, true_and, and_false, false_and, or_true, true_or, or_false, false_or, decide_true, decide_false, Bool.false_eq_true, Bool.true_eq_false, ↓cal_w (wk), wk, ↓cal_w (wn), wn, h20, h21, f_X1_checkNumbers_52]
            exact fin
          · simp (disch := omega) only [↓bnd_i, ↓cal_s, ↓cal_n, ↓cal2_s, ↓cal2_n, cal_s, cal2_s, ↓reduceIte, fa_lit, m1_lit, m2_lit, m1_lt, m2_lt, m1_eq, m2_eq, m1_le, m2_le, le_m1, le_m2, lt_m1, lt_m2, m12, m21, m1_m1, n_lt, n_le, n_eq, lt_t, lt_f, le_t, le_f, eq_t, eq_f, n_cl, inb_ok, n_add, pk_mul, pk_sub, n_rem, n_div, n_dec, n_mx, n_mn, eq_m1, eq_m2, ss_same, ss_ne, ss_r, ss_l, sr_f, sr_l, sr_same, sr_ne, sw_f, sw_l, sw_at, sw_ne, pk_us, pk_un, bI_t, bI_f, not_true_eq_false, not_false_eq_true, eq_self, and_true, true_and, and_false, false_and, or_true, true_or, or_false, false_or, decide_true, decide_false, Bool.false_eq_true, Bool.true_eq_false, ↓cal_w (wk), wk, ↓cal_w (wn), wn, h20, h21, f_X1_checkNumbers_52]
            exact fin
        · rw [z1] at wk
          simp (disch := omega) only [↓bnd_i, ↓cal_s, ↓cal_n, ↓cal2_s, ↓cal2_n, cal_s, cal2_s, ↓reduceIte, fa_lit, m1_lit, m2_lit, m1_lt, m2_lt, m1_eq, m2_eq, m1_le, m2_le, le_m1, le_m2, lt_m1, lt_m2, m12, m21, m1_m1, n_lt, n_le, n_eq, lt_t, lt_f, le_t, le_f, eq_t, eq_f, n_cl, inb_ok, n_add, pk_mul, pk_sub, n_rem, n_div, n_dec, n_mx, n_mn, eq_m1, eq_m2, ss_same, ss_ne, ss_r, ss_l, sr_f, sr_l, sr_same, sr_ne, sw_f, sw_l, sw_at, sw_ne, pk_us, pk_un, bI_t, bI_f, not_true_eq_false, not_false_eq_true, eq_self, and_true, true_and, and_false, false_and, or_true, true_or, or_false, false_or, decide_true, decide_false, Bool.false_eq_true, Bool.true_eq_false, ↓cal_w (wk), wk, ↓cal_w (wn), wn, h20, h21, f_X1_checkNumbers_52, f_X1_checkNumbers_68]
          exact fin
end
