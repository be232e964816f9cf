/-! PURE: the model's expression, the whole of it -/
section
variable {kd vl pl : Nat → Nat} {e : Nat}
def MS (kd vl pl : Nat → Nat) (e c0 a d : Nat) (ws : List Nat) (c : Cd) (τ : St) : Prop := TkM kd vl pl e τ ∧ τ.1 6 = nI 0 ∧ τ.1 4 = nI a ∧ τ.1 5 = nI d ∧ WC c0 ws c τ ∧ wOK ws ∧ c6 ws = d ∧ c0 + c.length + nop ws ≤ a
def PoE (pl : Nat → Nat) (c0 : Nat) (R : Nat × Nat × Cd) (τ τ' : St) : Prop := FmE c0 τ τ' ∧ (R.1 = 0 → τ'.1 6 = nI 0 ∧ τ'.1 4 = nI R.2.1 ∧ τ'.1 5 = nI 0 ∧ τ'.1 13 = nI (c0 + R.2.2.length) ∧ cdR (τ'.2.1 13) (τ'.2.1 14) c0 R.2.2 ∧ c0 + R.2.2.length ≤ R.2.1) ∧ (R.1 ≠ 0 → τ'.1 6 = nI R.1 ∧ τ'.1 7 = nI (pl R.2.1))
theorem PoE.pre {c0 : Nat} {R : Nat × Nat × Cd} {τ t τ' : St} (h : FmE c0 τ t) (p : PoE pl c0 R t τ') : PoE pl c0 R τ τ' := ⟨h.trans p.1, p.2.1, p.2.2⟩
theorem PoE.flt {c0 x a : Nat} {c : Cd} {τ τ' : St} (hx : 1 ≤ x) (f : FmE c0 τ τ') (h6 : τ'.1 6 = nI x) (h7 : τ'.1 7 = nI (pl a)) : PoE pl c0 (x, a, c) τ τ' := ⟨f, fun q => by have q : x = 0 := q; omega, fun _ => ⟨h6, h7⟩⟩
theorem t_flt23 {F n x : Nat} {τ : St} {K : St → Int32 → Int32 → Option St} {y : Int32} (h6 : τ.1 6 = nI x) (h0 : 1 ≤ x ∧ x ≤ 5) : f_X8_expression_23 F K (n + 1) τ y = some τ := by
  have w1 := t_isF (F := F) (y := nI 6) h6 h0
  have w2 := t_isF (F := F) (y := nI 2) h6 h0
  have w3 := t_failF (F := F) (y := nI 1) h6 h0
  rw [f_X8_expression_23]
  unfold f_X8_unit
  simp (disch := omega) only [↓bnd_i, ↓cal_s, ↓cal_n, ↓cal2_s, ↓cal2_n, cal_s, cal2_s, ↓reduceIte, fa_lit, m1_lit, m2_lit, m1_lt, m2_lt, m1_eq, m2_eq, m1_le, m2_le, le_m1, le_m2, lt_m1, lt_m2, m12, m21, m1_m1, n_lt, n_le, n_eq, lt_t, lt_f, le_t, le_f, eq_t, eq_f, n_cl, inb_ok, n_add, pk_mul, pk_sub, n_rem, n_div, n_dec, n_mx, n_mn, eq_m1, eq_m2, ss_same, ss_ne, ss_r, ss_l, sr_f, sr_l, sr_same, sr_ne, sw_f, sw_l, sw_at, sw_ne, pk_us, pk_un, bI_t, bI_f, not_true_eq_false, not_false_eq_true, eq_self, and_true, true_and, and_false, false_and, or_true, true_or, or_false, false_or, decide_true, decide_false, Bool.false_eq_true, Bool.true_eq_false, ↓cal_w (w1), w1, ↓cal_w (w2), w2, ↓cal_w (w3), w3, h6]
theorem t_flt145 {F x c0 : Nat} (hF : 100 < F) {τ : St} {K : St → Int32 → Int32 → Option St} {ws : List Nat} {c : Cd} {d : Nat} (h6 : τ.1 6 = nI x) (h0 : 1 ≤ x ∧ x ≤ 5) (h5 : τ.1 5 = nI d) (hd : d < 100) (ok : wOK ws) (W : WC c0 ws c τ) (h64 : ws.length < 64) (hc : c0 + c.length + nop ws ≤ 401) : ∃ τ', f_X8_expression_145 F K τ (nI 0) = some τ' ∧ FmE c0 τ τ' ∧ τ'.1 6 = nI x ∧ τ'.1 7 = τ.1 7 := by
  have i8 := t_isF (F := F) (y := nI 8) h6 h0
  have i9 := t_isF (F := F) (y := nI 9) h6 h0
  have i10 := t_isF (F := F) (y := nI 10) h6 h0
  have i15 := t_isF (F := F) (y := nI 15) h6 h0
  have i16 := t_isF (F := F) (y := nI 16) h6 h0
  have w3 := t_failF (F := F) (y := nI 1) h6 h0
  obtain ⟨τ', g1, g2, g3, g4, g5⟩ := t_out (F := F) false ws c F τ ok W (by omega) h64 hc
  have g1' : f_X8_comesOut F τ (nI 0) = some τ' := g1
  refine ⟨τ', ?_, g3, by rw [g4 6 (by omega) (by omega)]; exact h6, g4 7 (by omega) (by omega)⟩
  unfold f_X8_expression_145 f_X8_expression_195
  by_cases c : d = 0
  · simp (disch := omega) only [↓bnd_i, ↓cal_s, ↓cal_n, ↓cal2_s, ↓cal2_n, cal_s, cal2_s, ↓reduceIte, fa_lit, m1_lit, m2_lit, m1_lt, m2_lt, m1_eq, m2_eq, m1_le, m2_le, le_m1, le_m2, lt_m1, lt_m2, m12, m21, m1_m1, n_lt, n_le, n_eq, lt_t, lt_f, le_t, le_f, eq_t, eq_f, n_cl, inb_ok, n_add, pk_mul, pk_sub, n_rem, n_div, n_dec, n_mx, n_mn, eq_m1, eq_m2, ss_same, ss_ne, ss_r, ss_l, sr_f, sr_l, sr_same, sr_ne, sw_f, sw_l, sw_at, sw_ne, pk_us, pk_un, bI_t, bI_f, not_true_eq_false, not_false_eq_true, eq_self, and_true, true_and, and_false, false_and, or_true, true_or, or_false, false_or, decide_true, decide_false, Bool.false_eq_true, Bool.true_eq_false, ↓cal_w (i8), i8, ↓cal_w (i9), i9, ↓cal_w (i10), i10, ↓cal_w (i15), i15, ↓cal_w (i16), i16, ↓cal_w (w3), w3, ↓cal_w (g1'), g1', h5]
  · simp (disch := omega) only [↓bnd_i, ↓cal_s, ↓cal_n, ↓cal2_s, ↓cal2_n, cal_s, cal2_s, ↓reduceIte, fa_lit, m1_lit, m2_lit, m1_lt, m2_lt, m1_eq, m2_eq, m1_le, m2_le, le_m1, le_m2, lt_m1, lt_m2, m12, m21, m1_m1, n_lt, n_le, n_eq, lt_t, lt_f, le_t, le_f, eq_t, eq_f, n_cl, inb_ok, n_add, pk_mul, pk_sub, n_rem, n_div, n_dec, n_mx, n_mn, eq_m1, eq_m2, ss_same, ss_ne, ss_r, ss_l, sr_f, sr_l, sr_same, sr_ne, sw_f, sw_l, sw_at, sw_ne, pk_us, pk_un, bI_t, bI_f, not_true_eq_false, not_false_eq_true, eq_self, and_true, true_and, and_false, false_and, or_true, true_or, or_false, false_or, decide_true, decide_false, Bool.false_eq_true, Bool.true_eq_false, ↓cal_w (i8), i8, ↓cal_w (i9), i9, ↓cal_w (i10), i10, ↓cal_w (i15), i15, ↓cal_w (i16), i16, ↓cal_w (w3), w3, ↓cal_w (g1'), g1', h5]
theorem t_ex {F : Nat} (hF : 1000 < F) (E : TkE kd vl pl e) {c0 : Nat} : ∀ (n a d : Nat) (u : Bool) (ws : List Nat) (c : Cd) (τ : St) (n12 nx : Nat), MS kd vl pl e c0 a d ws c τ → a ≤ e → a ≤ 400 → d ≤ 6 → 401 < n + a → 401 < n12 + a → 401 < nx + a → ∃ τ', (if u = false then f_X8_expression_23 F (f_X8_expression_12 F n12) nx τ (nI 0) else f_X8_expression_96 F (f_X8_expression_12 F n12) nx τ (nI 0)) = some τ' ∧ PoE pl c0 (exM kd vl n a d u ws c) τ τ' := by
  have E' := E
  obtain ⟨e1, e2, e3, e4, e5, e6⟩ := E'
  intro n
  induction n with
  | zero => intro a d u ws c τ n12 nx _ h1 h2 _ h3; omega
  | succ n ih =>
    intro a d u ws c τ n12 nx S h1 h2 hd h3 h12 hnx
    obtain ⟨s1, s6, s4, s5, sW, sok, sc6, sb⟩ := S
    obtain ⟨m, K⟩ := MK.of E s1 h1 h2
    have hlen := wOK_len sok
    have hwt : wt (hdW ws) ≤ 2 := by unfold wt; repeat' split
                                     all_goals omega
    have hnop := nop_le ws
    obtain ⟨nx, rfl⟩ : ∃ k, nx = k + 1 := ⟨nx - 1, by omega⟩
    have kae : kd a ≤ 28 → a < e := fun q => by
      by_cases z : a = e
      · rw [z] at q; rcases e3 with y | y <;> omega
      · omega
    have fl0 : ∀ x, f_X8_fail F τ (nI x) = some (ss (ss τ 6 (nI x)) 7 (nI (pl a))) := fun x => t_fail0 (F := F) s6 s4 h2 K
    have fr0 : ∀ x, FmE c0 τ (ss (ss τ 6 (nI x)) 7 (nI (pl a))) := fun x => ((FmE.refl τ).ss (by omega)).ss (by omega)
    rw [exM_s]
    cases u
    · simp only [if_true]
      have i6 := t_is (F := F) (x := 6) s6 s4 h2 K (by omega)
      rw [K.i6] at i6
      rw [f_X8_expression_23]
      by_cases k27 : kd a = 27
      · rw [decide_eq_true k27] at i6
        have hae := kae (by omega)
        simp only [k27, if_true]
        by_cases d6 : d = 6
        · simp only [d6, if_true]
          -- too deep: the fault is told here
          obtain ⟨nx', rfl⟩ : ∃ k, nx = k + 1 := ⟨nx - 1, by omega⟩
          generalize hu : ss (ss (ss τ 6 (nI 2)) 7 (nI (pl a))) 5 (nI 7) = v
          have v6 : v.1 6 = nI 2 := by rw [← hu, ss_ne (by omega), ss_ne (by omega), ss_same]
          have v7 : v.1 7 = nI (pl a) := by rw [← hu, ss_ne (by omega), ss_same]
          have v4 : v.1 4 = nI a := by rw [← hu, ss_ne (by omega), ss_ne (by omega), ss_ne (by omega)]; exact s4
          have v14 : v.1 14 = nI ws.length := by rw [← hu, ss_ne (by omega), ss_ne (by omega), ss_ne (by omega)]; exact sW.1
          have vf : FmE c0 τ v := by rw [← hu]; exact (fr0 2).ss (by omega)
          obtain ⟨a', ha', go⟩ := t_goesOnF (F := F) v6 (by omega) v4 h2
          have x14 : (ss v 4 (nI a')).1 14 = nI ws.length := by rw [ss_ne (by omega)]; exact v14
          have x6 : (ss (sr (ss v 4 (nI a')) 15 ws.length (nI 6)) 14 (nI (ws.length + 1))).1 6 = nI 2 := by rw [ss_ne (by omega), sr_f, ss_ne (by omega)]; exact v6
          have fin := t_flt23 (F := F) (n := nx') (K := f_X8_expression_12 F n12) (y := nI 0) x6 (by omega)
          refine ⟨ss (sr (ss v 4 (nI a')) 15 ws.length (nI 6)) 14 (nI (ws.length + 1)), ?_, PoE.flt (by omega) (((vf.ss (by omega)).sr15).ss (by omega)) x6 ?_⟩
          · have s5' : τ.1 5 = nI 6 := by rw [s5, d6]
            simp (disch := omega) only [↓bnd_i, ↓cal_s, ↓cal_n, ↓cal2_s, ↓cal2_n, cal_s, cal2_s, ↓reduceIte, fa_lit, m1_lit, m2_lit, m1_lt, m2_lt, m1_eq, m2_eq, m1_le, m2_le, le_m1, le_m2, lt_m1, lt_m2, m12, m21, m1_m1, n_lt, n_le, n_eq, lt_t, lt_f, le_t, le_f, eq_t, eq_f, n_cl, inb_ok, n_add, pk_mul, pk_sub, n_rem, n_div, n_dec, n_mx, n_mn, eq_m1, eq_m2, ss_same, ss_ne, ss_r, ss_l, sr_f, sr_l, sr_same, sr_ne, sw_f, sw_l, sw_at, sw_ne, pk_us, pk_un, bI_t, bI_f, not_true_eq_false, not_false_eq_true, eq_self, and_true, true_and, and_false, false_and, or_true, true_or, or_false, false_or, decide_true, decide_false, Bool.false_eq_true, Bool.true_eq_false, ↓cal_w (i6), i6, ↓cal_w (fl0 2), fl0 2, s5', f_X8_expression_46, hu]
            simp (disch := omega) only [↓bnd_i, ↓cal_s, ↓cal_n, ↓cal2_s, ↓cal2_n, cal_s, cal2_s, ↓reduceIte, fa_lit, m1_lit, m2_lit, m1_lt, m2_lt, m1_eq, m2_eq, m1_le, m2_le, le_m1, le_m2, lt_m1, lt_m2, m12, m21, m1_m1, n_lt, n_le, n_eq, lt_t, lt_f, le_t, le_f, eq_t, eq_f, n_cl, inb_ok, n_add, pk_mul, pk_sub, n_rem, n_div, n_dec, n_mx, n_mn, eq_m1, eq_m2, ss_same, ss_ne, ss_r, ss_l, sr_f, sr_l, sr_same, sr_ne, sw_f, sw_l, sw_at, sw_ne, pk_us, pk_un, bI_t, bI_f, not_true_eq_false, not_false_eq_true, eq_self, and_true, true_and, and_false, false_and, or_true, true_or, or_false, false_or, decide_true, decide_false, Bool.false_eq_true, Bool.true_eq_false, ↓cal_w (go), go, v14]
            exact fin
          · rw [ss_ne (by omega), sr_f, ss_ne (by omega)]; exact v7
        · simp only [d6, if_false]
          generalize hu : ss τ 5 (nI (d + 1)) = v
          have v6 : v.1 6 = nI 0 := by rw [← hu, ss_ne (by omega)]; exact s6
          have v4 : v.1 4 = nI a := by rw [← hu, ss_ne (by omega)]; exact s4
          have v14 : v.1 14 = nI ws.length := by rw [← hu, ss_ne (by omega)]; exact sW.1
          have vr : v.2 = τ.2 := by rw [← hu]; rfl
          have vf : FmE c0 τ v := by rw [← hu]; exact (FmE.refl τ).ss (by omega)
          have go := t_goesOn (F := F) v6 v4 h2 (K.fr (τ' := v) (fun r _ => by rw [vr]))
          by_cases a4 : a < 400
          · simp only [a4, if_true]
            rw [if_pos a4] at go
            generalize hz : ss (sr (ss v 4 (nI (a + 1))) 15 ws.length (nI 6)) 14 (nI (ws.length + 1)) = z
            have zf : FmE c0 τ z := by rw [← hz]; exact ((vf.ss (by omega)).sr15).ss (by omega)
            have zS : MS kd vl pl e c0 (a + 1) (d + 1) (6 :: ws) c z := by
              obtain ⟨w1, w2, w3, w4⟩ := sW
              refine ⟨s1.fr (fun r _ => zf.2.1 r (by omega)), ?_, ?_, ?_, ⟨?_, ⟨?_, ?_⟩, ?_, ?_⟩, ⟨sok, Or.inl rfl⟩, ?_, ?_⟩
              · rw [← hz, ss_ne (by omega), sr_f, ss_ne (by omega)]; exact v6
              · rw [← hz, ss_ne (by omega), sr_f, ss_same]
              · rw [← hz, ss_ne (by omega), sr_f, ss_ne (by omega), ← hu, ss_same]
              · rw [← hz, ss_same]; rfl
              · rw [← hz, ss_r, sr_same, pk_us]
              · rw [← hz, ss_r, sr_same]
                refine wsR_upd (Nat.le_refl _) ?_
                rw [ss_r, vr]; exact w2
              · rw [← hz, ss_ne (by omega), sr_f, ss_ne (by omega), ← hu, ss_ne (by omega)]; exact w3
              · rw [← hz, ss_r, sr_ne (by omega), sr_ne (by omega), ss_r, vr]; exact w4
              · rw [c6, sc6, if_pos rfl]
              · rw [nop, if_pos rfl]; omega
            obtain ⟨τ', g1, g2⟩ := ih (a + 1) (d + 1) false (6 :: ws) c z n12 nx zS (by omega) (by omega) (by omega) (by omega) (by omega) (by omega)
            simp only [if_true] at g1
            refine ⟨τ', ?_, PoE.pre zf g2⟩
            simp (disch := omega) only [↓bnd_i, ↓cal_s, ↓cal_n, ↓cal2_s, ↓cal2_n, cal_s, cal2_s, ↓reduceIte, fa_lit, m1_lit, m2_lit, m1_lt, m2_lt, m1_eq, m2_eq, m1_le, m2_le, le_m1, le_m2, lt_m1, lt_m2, m12, m21, m1_m1, n_lt, n_le, n_eq, lt_t, lt_f, le_t, le_f, eq_t, eq_f, n_cl, inb_ok, n_add, pk_mul, pk_sub, n_rem, n_div, n_dec, n_mx, n_mn, eq_m1, eq_m2, ss_same, ss_ne, ss_r, ss_l, sr_f, sr_l, sr_same, sr_ne, sw_f, sw_l, sw_at, sw_ne, pk_us, pk_un, bI_t, bI_f, not_true_eq_false, not_false_eq_true, eq_self, and_true, true_and, and_false, false_and, or_true, true_or, or_false, false_or, decide_true, decide_false, Bool.false_eq_true, Bool.true_eq_false, ↓cal_w (i6), i6, s5, f_X8_expression_46, hu]
            simp (disch := omega) only [↓bnd_i, ↓cal_s, ↓cal_n, ↓cal2_s, ↓cal2_n, cal_s, cal2_s, ↓reduceIte, fa_lit, m1_lit, m2_lit, m1_lt, m2_lt, m1_eq, m2_eq, m1_le, m2_le, le_m1, le_m2, lt_m1, lt_m2, m12, m21, m1_m1, n_lt, n_le, n_eq, lt_t, lt_f, le_t, le_f, eq_t, eq_f, n_cl, inb_ok, n_add, pk_mul, pk_sub, n_rem, n_div, n_dec, n_mx, n_mn, eq_m1, eq_m2, ss_same, ss_ne, ss_r, ss_l, sr_f, sr_l, sr_same, sr_ne, sw_f, sw_l, sw_at, sw_ne, pk_us, pk_un, bI_t, bI_f, not_true_eq_false, not_false_eq_true, eq_self, and_true, true_and, and_false, false_and, or_true, true_or, or_false, false_or, decide_true, decide_false, Bool.false_eq_true, Bool.true_eq_false, ↓cal_w (go), go, v14, hz]
            exact g1
          · simp only [a4, if_false]
            rw [if_neg a4] at go
            obtain ⟨nx', rfl⟩ : ∃ k, nx = k + 1 := ⟨nx - 1, by omega⟩
            have x6 : (ss (sr (ss (ss v 6 (nI 2)) 7 (nI (pl a))) 15 ws.length (nI 6)) 14 (nI (ws.length + 1))).1 6 = nI 2 := by rw [ss_ne (by omega), sr_f, ss_ne (by omega), ss_same]
            have fin := t_flt23 (F := F) (n := nx') (K := f_X8_expression_12 F n12) (y := nI 0) x6 (by omega)
            refine ⟨ss (sr (ss (ss v 6 (nI 2)) 7 (nI (pl a))) 15 ws.length (nI 6)) 14 (nI (ws.length + 1)), ?_, PoE.flt (by omega) ((((vf.ss (by omega)).ss (by omega)).sr15).ss (by omega)) x6 ?_⟩
            · simp (disch := omega) only [↓bnd_i, ↓cal_s, ↓cal_n, ↓cal2_s, ↓cal2_n, cal_s, cal2_s, ↓reduceIte, fa_lit, m1_lit, m2_lit, m1_lt, m2_lt, m1_eq, m2_eq, m1_le, m2_le, le_m1, le_m2, lt_m1, lt_m2, m12, m21, m1_m1, n_lt, n_le, n_eq, lt_t, lt_f, le_t, le_f, eq_t, eq_f, n_cl, inb_ok, n_add, pk_mul, pk_sub, n_rem, n_div, n_dec, n_mx, n_mn, eq_m1, eq_m2, ss_same, ss_ne, ss_r, ss_l, sr_f, sr_l, sr_same, sr_ne, sw_f, sw_l, sw_at, sw_ne, pk_us, pk_un, bI_t, bI_f, not_true_eq_false, not_false_eq_true, eq_self, and_true, true_and, and_false, false_and, or_true, true_or, or_false, false_or, decide_true, decide_false, Bool.false_eq_true, Bool.true_eq_false, ↓cal_w (i6), i6, s5, f_X8_expression_46, hu]
              simp (disch := omega) only [↓bnd_i, ↓cal_s, ↓cal_n, ↓cal2_s, ↓cal2_n, cal_s, cal2_s, ↓reduceIte, fa_lit, m1_lit, m2_lit, m1_lt, m2_lt, m1_eq, m2_eq, m1_le, m2_le, le_m1, le_m2, lt_m1, lt_m2, m12, m21, m1_m1, n_lt, n_le, n_eq, lt_t, lt_f, le_t, le_f, eq_t, eq_f, n_cl, inb_ok, n_add, pk_mul, pk_sub, n_rem, n_div, n_dec, n_mx, n_mn, eq_m1, eq_m2, ss_same, ss_ne, ss_r, ss_l, sr_f, sr_l, sr_same, sr_ne, sw_f, sw_l, sw_at, sw_ne, pk_us, pk_un, bI_t, bI_f, not_true_eq_false, not_false_eq_true, eq_self, and_true, true_and, and_false, false_and, or_true, true_or, or_false, false_or, decide_true, decide_false, Bool.false_eq_true, Bool.true_eq_false, ↓cal_w (go), go, v14]
              exact fin
            · rw [ss_ne (by omega), sr_f, ss_same]
      · rw [decide_eq_false k27] at i6
        simp only [k27, if_false]
        have i2 := t_is (F := F) (x := 2) s6 s4 h2 K (by omega)
        rw [K.i2] at i2
        obtain ⟨w1, w2, w3, w4⟩ := sW
        by_cases ku : 14 ≤ kd a ∧ kd a ≤ 20
        · have hae := kae (by omega)
          simp only [ku, and_self, if_true]
          -- the unit is emitted
          have emi : ∃ x y : Nat, unC kd vl a = (x, y) ∧ ∀ (Q : Option St), cal (f_X8_goesOn F (emS τ (c0 + c.length) (nI x) (nI y))) (fun t => some t) = Q → f_X8_unit F τ = Q := by
            have em : ∀ x y : Nat, f_X8_emit F τ (nI x) (nI y) = some (emS τ (c0 + c.length) (nI x) (nI y)) := fun x y => t_emit (F := F) w3 (by omega) (nI x) (nI y)
            by_cases k20 : kd a = 20
            · rw [decide_eq_true k20] at i2
              have v5 := K.2.2.2.2 k20
              refine ⟨0, vl a, by unfold unC; rw [if_pos k20], fun Q hQ => ?_⟩
              unfold f_X8_unit
              simp (disch := omega) only [↓bnd_i, ↓cal_s, ↓cal_n, ↓cal2_s, ↓cal2_n, cal_s, cal2_s, ↓reduceIte, fa_lit, m1_lit, m2_lit, m1_lt, m2_lt, m1_eq, m2_eq, m1_le, m2_le, le_m1, le_m2, lt_m1, lt_m2, m12, m21, m1_m1, n_lt, n_le, n_eq, lt_t, lt_f, le_t, le_f, eq_t, eq_f, n_cl, inb_ok, n_add, pk_mul, pk_sub, n_rem, n_div, n_dec, n_mx, n_mn, eq_m1, eq_m2, ss_same, ss_ne, ss_r, ss_l, sr_f, sr_l, sr_same, sr_ne, sw_f, sw_l, sw_at, sw_ne, pk_us, pk_un, bI_t, bI_f, not_true_eq_false, not_false_eq_true, eq_self, and_true, true_and, and_false, false_and, or_true, true_or, or_false, false_or, decide_true, decide_false, Bool.false_eq_true, Bool.true_eq_false, ↓cal_w (i2), i2, ↓cal_w (em 0 (vl a)), em 0 (vl a), s4, v5]
              exact hQ
            · rw [decide_eq_false k20] at i2
              have hm := K.w (by omega)
              have k3 := K.1
              refine ⟨1, kd a - 14, by unfold unC; rw [if_neg k20], fun Q hQ => ?_⟩
              have e34 : m - 34 = kd a - 14 := by omega
              unfold f_X8_unit
              simp (disch := omega) only [↓bnd_i, ↓cal_s, ↓cal_n, ↓cal2_s, ↓cal2_n, cal_s, cal2_s, ↓reduceIte, fa_lit, m1_lit, m2_lit, m1_lt, m2_lt, m1_eq, m2_eq, m1_le, m2_le, le_m1, le_m2, lt_m1, lt_m2, m12, m21, m1_m1, n_lt, n_le, n_eq, lt_t, lt_f, le_t, le_f, eq_t, eq_f, n_cl, inb_ok, n_add, pk_mul, pk_sub, n_rem, n_div, n_dec, n_mx, n_mn, eq_m1, eq_m2, ss_same, ss_ne, ss_r, ss_l, sr_f, sr_l, sr_same, sr_ne, sw_f, sw_l, sw_at, sw_ne, pk_us, pk_un, bI_t, bI_f, not_true_eq_false, not_false_eq_true, eq_self, and_true, true_and, and_false, false_and, or_true, true_or, or_false, false_or, decide_true, decide_false, Bool.false_eq_true, Bool.true_eq_false, ↓cal_w (i2), i2, ↓cal_w (em 1 (kd a - 14)), em 1 (kd a - 14), s6, s4, k3, e34]
              exact hQ
          obtain ⟨x, y, exy, emi⟩ := emi
          obtain ⟨r1, r2, r3, r4⟩ := emS_r (τ := τ) (n := c0 + c.length) (x := nI x) (y := nI y)
          generalize hv : emS τ (c0 + c.length) (nI x) (nI y) = v at *
          have vf : FmE c0 τ v := by rw [← hv]; exact (FmE.refl τ).em (by omega)
          have v6 : v.1 6 = nI 0 := by rw [← hv, emS_f (by omega)]; exact s6
          have v4 : v.1 4 = nI a := by rw [← hv, emS_f (by omega)]; exact s4
          have go := t_goesOn (F := F) v6 v4 h2 (K.fr (τ' := v) (fun r _ => vf.2.1 r (by omega)))
          by_cases a4 : a < 400
          · simp only [a4, if_true]
            rw [if_pos a4] at go
            have un := emi (some (ss v 4 (nI (a + 1)))) (by rw [cal_w go])
            have zf : FmE c0 τ (ss v 4 (nI (a + 1))) := vf.ss (by omega)
            have zS : MS kd vl pl e c0 (a + 1) d ws (unC kd vl a :: c) (ss v 4 (nI (a + 1))) := by
              refine ⟨s1.fr (fun r _ => zf.2.1 r (by omega)), ?_, ss_same, ?_, ⟨?_, ?_, ?_, ?_⟩, sok, sc6, ?_⟩
              · rw [ss_ne (by omega)]; exact v6
              · rw [ss_ne (by omega), ← hv, emS_f (by omega)]; exact s5
              · rw [ss_ne (by omega), ← hv, emS_f (by omega)]; exact w1
              · rw [ss_r, r4]; exact w2
              · rw [ss_ne (by omega), r1]; rfl
              · rw [ss_r, r2, r3, exy]
                exact ⟨pk_us, pk_us, cdR_upd (Nat.le_refl _) w4⟩
              · show c0 + (c.length + 1) + nop ws ≤ a + 1
                omega
            obtain ⟨τ', g1, g2⟩ := ih (a + 1) d true ws (unC kd vl a :: c) (ss v 4 (nI (a + 1))) n12 F zS (by omega) (by omega) hd (by omega) (by omega) (by omega)
            simp only [Bool.true_eq_false, if_false] at g1
            refine ⟨τ', ?_, PoE.pre zf g2⟩
            simp (disch := omega) only [↓bnd_i, ↓cal_s, ↓cal_n, ↓cal2_s, ↓cal2_n, cal_s, cal2_s, ↓reduceIte, fa_lit, m1_lit, m2_lit, m1_lt, m2_lt, m1_eq, m2_eq, m1_le, m2_le, le_m1, le_m2, lt_m1, lt_m2, m12, m21, m1_m1, n_lt, n_le, n_eq, lt_t, lt_f, le_t, le_f, eq_t, eq_f, n_cl, inb_ok, n_add, pk_mul, pk_sub, n_rem, n_div, n_dec, n_mx, n_mn, eq_m1, eq_m2, ss_same, ss_ne, ss_r, ss_l, sr_f, sr_l, sr_same, sr_ne, sw_f, sw_l, sw_at, sw_ne, pk_us, pk_un, bI_t, bI_f, not_true_eq_false, not_false_eq_true, eq_self, and_true, true_and, and_false, false_and, or_true, true_or, or_false, false_or, decide_true, decide_false, Bool.false_eq_true, Bool.true_eq_false, ↓cal_w (i6), i6, ↓cal_w (un), un, v6]
            exact g1
          · simp only [a4, if_false]
            rw [if_neg a4] at go
            have un := emi (some (ss (ss v 6 (nI 2)) 7 (nI (pl a)))) (by rw [cal_w go])
            refine ⟨ss (ss v 6 (nI 2)) 7 (nI (pl a)), ?_, PoE.flt (by omega) ((vf.ss (by omega)).ss (by omega)) (by rw [ss_ne (by omega), ss_same]) ss_same⟩
            simp (disch := omega) only [↓bnd_i, ↓cal_s, ↓cal_n, ↓cal2_s, ↓cal2_n, cal_s, cal2_s, ↓reduceIte, fa_lit, m1_lit, m2_lit, m1_lt, m2_lt, m1_eq, m2_eq, m1_le, m2_le, le_m1, le_m2, lt_m1, lt_m2, m12, m21, m1_m1, n_lt, n_le, n_eq, lt_t, lt_f, le_t, le_f, eq_t, eq_f, n_cl, inb_ok, n_add, pk_mul, pk_sub, n_rem, n_div, n_dec, n_mx, n_mn, eq_m1, eq_m2, ss_same, ss_ne, ss_r, ss_l, sr_f, sr_l, sr_same, sr_ne, sw_f, sw_l, sw_at, sw_ne, pk_us, pk_un, bI_t, bI_f, not_true_eq_false, not_false_eq_true, eq_self, and_true, true_and, and_false, false_and, or_true, true_or, or_false, false_or, decide_true, decide_false, Bool.false_eq_true, Bool.true_eq_false, ↓cal_w (i6), i6, ↓cal_w (un), un]
        · simp only [ku, if_false]
          have un : f_X8_unit F τ = some (ss (ss τ 6 (nI 1)) 7 (nI (pl a))) := by
            rw [decide_eq_false (show ¬ kd a = 20 by omega)] at i2
            have k3 := K.1
            have k50 := K.2.1
            unfold f_X8_unit
            by_cases c20 : kd a < 20
            · have hm := K.w c20
              simp (disch := omega) only [↓bnd_i, ↓cal_s, ↓cal_n, ↓cal2_s, ↓cal2_n, cal_s, cal2_s, ↓reduceIte, fa_lit, m1_lit, m2_lit, m1_lt, m2_lt, m1_eq, m2_eq, m1_le, m2_le, le_m1, le_m2, lt_m1, lt_m2, m12, m21, m1_m1, n_lt, n_le, n_eq, lt_t, lt_f, le_t, le_f, eq_t, eq_f, n_cl, inb_ok, n_add, pk_mul, pk_sub, n_rem, n_div, n_dec, n_mx, n_mn, eq_m1, eq_m2, ss_same, ss_ne, ss_r, ss_l, sr_f, sr_l, sr_same, sr_ne, sw_f, sw_l, sw_at, sw_ne, pk_us, pk_un, bI_t, bI_f, not_true_eq_false, not_false_eq_true, eq_self, and_true, true_and, and_false, false_and, or_true, true_or, or_false, false_or, decide_true, decide_false, Bool.false_eq_true, Bool.true_eq_false, ↓cal_w (i2), i2, ↓cal_w (fl0 1), fl0 1, s6, s4, k3]
            · have hm := K.n c20
              simp (disch := omega) only [↓bnd_i, ↓cal_s, ↓cal_n, ↓cal2_s, ↓cal2_n, cal_s, cal2_s, ↓reduceIte, fa_lit, m1_lit, m2_lit, m1_lt, m2_lt, m1_eq, m2_eq, m1_le, m2_le, le_m1, le_m2, lt_m1, lt_m2, m12, m21, m1_m1, n_lt, n_le, n_eq, lt_t, lt_f, le_t, le_f, eq_t, eq_f, n_cl, inb_ok, n_add, pk_mul, pk_sub, n_rem, n_div, n_dec, n_mx, n_mn, eq_m1, eq_m2, ss_same, ss_ne, ss_r, ss_l, sr_f, sr_l, sr_same, sr_ne, sw_f, sw_l, sw_at, sw_ne, pk_us, pk_un, bI_t, bI_f, not_true_eq_false, not_false_eq_true, eq_self, and_true, true_and, and_false, false_and, or_true, true_or, or_false, false_or, decide_true, decide_false, Bool.false_eq_true, Bool.true_eq_false, ↓cal_w (i2), i2, ↓cal_w (fl0 1), fl0 1, s6, s4, k3]
          refine ⟨ss (ss τ 6 (nI 1)) 7 (nI (pl a)), ?_, PoE.flt (by omega) (fr0 1) (by rw [ss_ne (by omega), ss_same]) ss_same⟩
          simp (disch := omega) only [↓bnd_i, ↓cal_s, ↓cal_n, ↓cal2_s, ↓cal2_n, cal_s, cal2_s, ↓reduceIte, fa_lit, m1_lit, m2_lit, m1_lt, m2_lt, m1_eq, m2_eq, m1_le, m2_le, le_m1, le_m2, lt_m1, lt_m2, m12, m21, m1_m1, n_lt, n_le, n_eq, lt_t, lt_f, le_t, le_f, eq_t, eq_f, n_cl, inb_ok, n_add, pk_mul, pk_sub, n_rem, n_div, n_dec, n_mx, n_mn, eq_m1, eq_m2, ss_same, ss_ne, ss_r, ss_l, sr_f, sr_l, sr_same, sr_ne, sw_f, sw_l, sw_at, sw_ne, pk_us, pk_un, bI_t, bI_f, not_true_eq_false, not_false_eq_true, eq_self, and_true, true_and, and_false, false_and, or_true, true_or, or_false, false_or, decide_true, decide_false, Bool.false_eq_true, Bool.true_eq_false, ↓cal_w (i6), i6, ↓cal_w (un), un]
    · simp only [Bool.true_eq_false, if_false]
      have i7 := t_is (F := F) (x := 7) s6 s4 h2 K (by omega)
      rw [K.i7] at i7
      have i8 := t_is (F := F) (x := 8) s6 s4 h2 K (by omega)
      rw [K.i8] at i8
      have i9 := t_is (F := F) (x := 9) s6 s4 h2 K (by omega)
      rw [K.i9] at i9
      have i10 := t_is (F := F) (x := 10) s6 s4 h2 K (by omega)
      rw [K.i10] at i10
      have i15 := t_is (F := F) (x := 15) s6 s4 h2 K (by omega)
      rw [K.i15] at i15
      have i16 := t_is (F := F) (x := 16) s6 s4 h2 K (by omega)
      rw [K.i16] at i16
      rw [f_X8_expression_96]
      by_cases ko : 22 ≤ kd a ∧ kd a ≤ 26
      · have hae := kae (by omega)
        simp only [ko, and_self, if_true]
        rw [decide_eq_false (show ¬ kd a = 28 by omega)] at i7
        generalize hs : decide (24 ≤ kd a) = s
        obtain ⟨o1, o2, o3, o4, o5⟩ := outc_P s ws c sok
        obtain ⟨v, g1, g2, g3, g4, g5⟩ := t_out (F := F) s ws c F τ sok sW (by omega) (by omega) (by omega)
        have g1' : f_X8_comesOut F τ (bI s) = some v := g1
        generalize hws : (outc s ws c).1 = ws' at *
        generalize hcc : (outc s ws c).2 = c' at *
        have hlen' := wOK_len o1
        have v6 : v.1 6 = nI 0 := by rw [g4 6 (by omega) (by omega)]; exact s6
        have v4 : v.1 4 = nI a := by rw [g4 4 (by omega) (by omega)]; exact s4
        have v5 : v.1 5 = nI d := by rw [g4 5 (by omega) (by omega)]; exact s5
        have hm := K.o (by omega)
        have k3 : v.2.1 3 a = nI (mkOf (kd a)) := by rw [g3.2.1 3 (by omega), K.1, hm]
        obtain ⟨w1, w2, w3, w4⟩ := g2
        generalize hz : ss (sr v 15 ws'.length (nI (mkOf (kd a)))) 14 (nI (ws'.length + 1)) = z
        have zf : FmE c0 τ z := by rw [← hz]; exact (g3.sr15).ss (by omega)
        have z6 : z.1 6 = nI 0 := by rw [← hz, ss_ne (by omega), sr_f]; exact v6
        have z4 : z.1 4 = nI a := by rw [← hz, ss_ne (by omega), sr_f]; exact v4
        have go := t_goesOn (F := F) z6 z4 h2 (K.fr (τ' := z) (fun r _ => zf.2.1 r (by omega)))
        have into : ∀ (Q : Option St), cal (f_X8_goesOn F z) (fun t6 => f_X8_expression_12 F n12 t6 (nI 0) (nI 1)) = Q → f_X8_expression_252 F (f_X8_expression_12 F n12) τ (nI 0) (nI 1) (bI s) = Q := by
          intro Q hQ
          unfold f_X8_expression_252
          simp (disch := omega) only [↓bnd_i, ↓cal_s, ↓cal_n, ↓cal2_s, ↓cal2_n, cal_s, cal2_s, ↓reduceIte, fa_lit, m1_lit, m2_lit, m1_lt, m2_lt, m1_eq, m2_eq, m1_le, m2_le, le_m1, le_m2, lt_m1, lt_m2, m12, m21, m1_m1, n_lt, n_le, n_eq, lt_t, lt_f, le_t, le_f, eq_t, eq_f, n_cl, inb_ok, n_add, pk_mul, pk_sub, n_rem, n_div, n_dec, n_mx, n_mn, eq_m1, eq_m2, ss_same, ss_ne, ss_r, ss_l, sr_f, sr_l, sr_same, sr_ne, sw_f, sw_l, sw_at, sw_ne, pk_us, pk_un, bI_t, bI_f, not_true_eq_false, not_false_eq_true, eq_self, and_true, true_and, and_false, false_and, or_true, true_or, or_false, false_or, decide_true, decide_false, Bool.false_eq_true, Bool.true_eq_false, ↓cal_w (g1'), g1', v4, w1, k3, hz]
          exact hQ
        have into2 : ∀ (Q : Option St), f_X8_expression_252 F (f_X8_expression_12 F n12) τ (nI 0) (nI 1) (bI s) = Q → f_X8_expression_145 F (f_X8_expression_12 F n12) τ (nI 0) = Q := by
          intro Q hQ
          unfold f_X8_expression_145 f_X8_expression_190 f_X8_expression_195 f_X8_expression_247
          rcases (show kd a = 22 ∨ kd a = 23 ∨ kd a = 24 ∨ kd a = 25 ∨ kd a = 26 by omega) with q | q | q | q | q
          · rw [q] at i8 i9 i10 i15 i16 hs
            have hQ' : f_X8_expression_252 F (f_X8_expression_12 F n12) τ (nI 0) (nI 1) (nI 0) = Q := by rw [← hs] at hQ; exact hQ
            simp (disch := omega) only [↓bnd_i, ↓cal_s, ↓cal_n, ↓cal2_s, ↓cal2_n, cal_s, cal2_s, ↓reduceIte, fa_lit, m1_lit, m2_lit, m1_lt, m2_lt, m1_eq, m2_eq, m1_le, m2_le, le_m1, le_m2, lt_m1, lt_m2, m12, m21, m1_m1, n_lt, n_le, n_eq, lt_t, lt_f, le_t, le_f, eq_t, eq_f, n_cl, inb_ok, n_add, pk_mul, pk_sub, n_rem, n_div, n_dec, n_mx, n_mn, eq_m1, eq_m2, ss_same, ss_ne, ss_r, ss_l, sr_f, sr_l, sr_same, sr_ne, sw_f, sw_l, sw_at, sw_ne, pk_us, pk_un, bI_t, bI_f, not_true_eq_false, not_false_eq_true, eq_self, and_true, true_and, and_false, false_and, or_true, true_or, or_false, false_or, decide_true, decide_false, Bool.false_eq_true, Bool.true_eq_false, ↓cal_w (show f_X8_is F τ (nI 8) = some (nI 1) from i8), show f_X8_is F τ (nI 8) = some (nI 1) from i8, ↓cal_w (show f_X8_is F τ (nI 9) = some (nI 0) from i9), show f_X8_is F τ (nI 9) = some (nI 0) from i9, ↓cal_w (show f_X8_is F τ (nI 10) = some (nI 0) from i10), show f_X8_is F τ (nI 10) = some (nI 0) from i10, ↓cal_w (show f_X8_is F τ (nI 15) = some (nI 0) from i15), show f_X8_is F τ (nI 15) = some (nI 0) from i15, ↓cal_w (show f_X8_is F τ (nI 16) = some (nI 0) from i16), show f_X8_is F τ (nI 16) = some (nI 0) from i16]
            exact hQ'
          · rw [q] at i8 i9 i10 i15 i16 hs
            have hQ' : f_X8_expression_252 F (f_X8_expression_12 F n12) τ (nI 0) (nI 1) (nI 0) = Q := by rw [← hs] at hQ; exact hQ
            simp (disch := omega) only [↓bnd_i, ↓cal_s, ↓cal_n, ↓cal2_s, ↓cal2_n, cal_s, cal2_s, ↓reduceIte, fa_lit, m1_lit, m2_lit, m1_lt, m2_lt, m1_eq, m2_eq, m1_le, m2_le, le_m1, le_m2, lt_m1, lt_m2, m12, m21, m1_m1, n_lt, n_le, n_eq, lt_t, lt_f, le_t, le_f, eq_t, eq_f, n_cl, inb_ok, n_add, pk_mul, pk_sub, n_rem, n_div, n_dec, n_mx, n_mn, eq_m1, eq_m2, ss_same, ss_ne, ss_r, ss_l, sr_f, sr_l, sr_same, sr_ne, sw_f, sw_l, sw_at, sw_ne, pk_us, pk_un, bI_t, bI_f, not_true_eq_false, not_false_eq_true, eq_self, and_true, true_and, and_false, false_and, or_true, true_or, or_false, false_or, decide_true, decide_false, Bool.false_eq_true, Bool.true_eq_false, ↓cal_w (show f_X8_is F τ (nI 8) = some (nI 0) from i8), show f_X8_is F τ (nI 8) = some (nI 0) from i8, ↓cal_w (show f_X8_is F τ (nI 9) = some (nI 1) from i9), show f_X8_is F τ (nI 9) = some (nI 1) from i9, ↓cal_w (show f_X8_is F τ (nI 10) = some (nI 0) from i10), show f_X8_is F τ (nI 10) = some (nI 0) from i10, ↓cal_w (show f_X8_is F τ (nI 15) = some (nI 0) from i15), show f_X8_is F τ (nI 15) = some (nI 0) from i15, ↓cal_w (show f_X8_is F τ (nI 16) = some (nI 0) from i16), show f_X8_is F τ (nI 16) = some (nI 0) from i16]
            exact hQ'
          · rw [q] at i8 i9 i10 i15 i16 hs
            have hQ' : f_X8_expression_252 F (f_X8_expression_12 F n12) τ (nI 0) (nI 1) (nI 1) = Q := by rw [← hs] at hQ; exact hQ
            simp (disch := omega) only [↓bnd_i, ↓cal_s, ↓cal_n, ↓cal2_s, ↓cal2_n, cal_s, cal2_s, ↓reduceIte, fa_lit, m1_lit, m2_lit, m1_lt, m2_lt, m1_eq, m2_eq, m1_le, m2_le, le_m1, le_m2, lt_m1, lt_m2, m12, m21, m1_m1, n_lt, n_le, n_eq, lt_t, lt_f, le_t, le_f, eq_t, eq_f, n_cl, inb_ok, n_add, pk_mul, pk_sub, n_rem, n_div, n_dec, n_mx, n_mn, eq_m1, eq_m2, ss_same, ss_ne, ss_r, ss_l, sr_f, sr_l, sr_same, sr_ne, sw_f, sw_l, sw_at, sw_ne, pk_us, pk_un, bI_t, bI_f, not_true_eq_false, not_false_eq_true, eq_self, and_true, true_and, and_false, false_and, or_true, true_or, or_false, false_or, decide_true, decide_false, Bool.false_eq_true, Bool.true_eq_false, ↓cal_w (show f_X8_is F τ (nI 8) = some (nI 0) from i8), show f_X8_is F τ (nI 8) = some (nI 0) from i8, ↓cal_w (show f_X8_is F τ (nI 9) = some (nI 0) from i9), show f_X8_is F τ (nI 9) = some (nI 0) from i9, ↓cal_w (show f_X8_is F τ (nI 10) = some (nI 1) from i10), show f_X8_is F τ (nI 10) = some (nI 1) from i10, ↓cal_w (show f_X8_is F τ (nI 15) = some (nI 0) from i15), show f_X8_is F τ (nI 15) = some (nI 0) from i15, ↓cal_w (show f_X8_is F τ (nI 16) = some (nI 0) from i16), show f_X8_is F τ (nI 16) = some (nI 0) from i16]
            exact hQ'
          · rw [q] at i8 i9 i10 i15 i16 hs
            have hQ' : f_X8_expression_252 F (f_X8_expression_12 F n12) τ (nI 0) (nI 1) (nI 1) = Q := by rw [← hs] at hQ; exact hQ
            simp (disch := omega) only [↓bnd_i, ↓cal_s, ↓cal_n, ↓cal2_s, ↓cal2_n, cal_s, cal2_s, ↓reduceIte, fa_lit, m1_lit, m2_lit, m1_lt, m2_lt, m1_eq, m2_eq, m1_le, m2_le, le_m1, le_m2, lt_m1, lt_m2, m12, m21, m1_m1, n_lt, n_le, n_eq, lt_t, lt_f, le_t, le_f, eq_t, eq_f, n_cl, inb_ok, n_add, pk_mul, pk_sub, n_rem, n_div, n_dec, n_mx, n_mn, eq_m1, eq_m2, ss_same, ss_ne, ss_r, ss_l, sr_f, sr_l, sr_same, sr_ne, sw_f, sw_l, sw_at, sw_ne, pk_us, pk_un, bI_t, bI_f, not_true_eq_false, not_false_eq_true, eq_self, and_true, true_and, and_false, false_and, or_true, true_or, or_false, false_or, decide_true, decide_false, Bool.false_eq_true, Bool.true_eq_false, ↓cal_w (show f_X8_is F τ (nI 8) = some (nI 0) from i8), show f_X8_is F τ (nI 8) = some (nI 0) from i8, ↓cal_w (show f_X8_is F τ (nI 9) = some (nI 0) from i9), show f_X8_is F τ (nI 9) = some (nI 0) from i9, ↓cal_w (show f_X8_is F τ (nI 10) = some (nI 0) from i10), show f_X8_is F τ (nI 10) = some (nI 0) from i10, ↓cal_w (show f_X8_is F τ (nI 15) = some (nI 1) from i15), show f_X8_is F τ (nI 15) = some (nI 1) from i15, ↓cal_w (show f_X8_is F τ (nI 16) = some (nI 0) from i16), show f_X8_is F τ (nI 16) = some (nI 0) from i16]
            exact hQ'
          · rw [q] at i8 i9 i10 i15 i16 hs
            have hQ' : f_X8_expression_252 F (f_X8_expression_12 F n12) τ (nI 0) (nI 1) (nI 1) = Q := by rw [← hs] at hQ; exact hQ
            simp (disch := omega) only [↓bnd_i, ↓cal_s, ↓cal_n, ↓cal2_s, ↓cal2_n, cal_s, cal2_s, ↓reduceIte, fa_lit, m1_lit, m2_lit, m1_lt, m2_lt, m1_eq, m2_eq, m1_le, m2_le, le_m1, le_m2, lt_m1, lt_m2, m12, m21, m1_m1, n_lt, n_le, n_eq, lt_t, lt_f, le_t, le_f, eq_t, eq_f, n_cl, inb_ok, n_add, pk_mul, pk_sub, n_rem, n_div, n_dec, n_mx, n_mn, eq_m1, eq_m2, ss_same, ss_ne, ss_r, ss_l, sr_f, sr_l, sr_same, sr_ne, sw_f, sw_l, sw_at, sw_ne, pk_us, pk_un, bI_t, bI_f, not_true_eq_false, not_false_eq_true, eq_self, and_true, true_and, and_false, false_and, or_true, true_or, or_false, false_or, decide_true, decide_false, Bool.false_eq_true, Bool.true_eq_false, ↓cal_w (show f_X8_is F τ (nI 8) = some (nI 0) from i8), show f_X8_is F τ (nI 8) = some (nI 0) from i8, ↓cal_w (show f_X8_is F τ (nI 9) = some (nI 0) from i9), show f_X8_is F τ (nI 9) = some (nI 0) from i9, ↓cal_w (show f_X8_is F τ (nI 10) = some (nI 0) from i10), show f_X8_is F τ (nI 10) = some (nI 0) from i10, ↓cal_w (show f_X8_is F τ (nI 15) = some (nI 0) from i15), show f_X8_is F τ (nI 15) = some (nI 0) from i15, ↓cal_w (show f_X8_is F τ (nI 16) = some (nI 1) from i16), show f_X8_is F τ (nI 16) = some (nI 1) from i16]
            exact hQ'
        obtain ⟨n12, rfl⟩ : ∃ k, n12 = k + 1 := ⟨n12 - 1, by omega⟩
        by_cases a4 : a < 400
        · simp only [a4, if_true]
          rw [if_pos a4] at go
          have zf' : FmE c0 τ (ss z 4 (nI (a + 1))) := zf.ss (by omega)
          have zS : MS kd vl pl e c0 (a + 1) d (mkOf (kd a) :: ws') c' (ss z 4 (nI (a + 1))) := by
            have hmk : mkOf (kd a) ≠ 6 ∧ (s = false → mkOf (kd a) = 8 ∨ mkOf (kd a) = 9) ∧ (s = true → mkOf (kd a) = 10 ∨ mkOf (kd a) = 15 ∨ mkOf (kd a) = 16) := by
              rcases (show kd a = 22 ∨ kd a = 23 ∨ kd a = 24 ∨ kd a = 25 ∨ kd a = 26 by omega) with q | q | q | q | q <;> rw [q] at hs ⊢ <;> rw [← hs] <;> decide
            refine ⟨s1.fr (fun r _ => zf'.2.1 r (by omega)), ?_, ss_same, ?_, ⟨?_, ⟨?_, ?_⟩, ?_, ?_⟩, ⟨o1, ?_⟩, ?_, ?_⟩
            · rw [ss_ne (by omega)]; exact z6
            · rw [ss_ne (by omega), ← hz, ss_ne (by omega), sr_f]; exact v5
            · rw [ss_ne (by omega), ← hz, ss_same]; rfl
            · rw [ss_r, ← hz, ss_r, sr_same, pk_us]
            · rw [ss_r, ← hz, ss_r, sr_same]
              exact wsR_upd (Nat.le_refl _) w2
            · rw [ss_ne (by omega), ← hz, ss_ne (by omega), sr_f]; exact w3
            · rw [ss_r, ← hz, ss_r, sr_ne (by omega), sr_ne (by omega)]; exact w4
            · cases s
              · refine Or.inr (Or.inl ⟨hmk.2.1 rfl, ?_⟩)
                rcases o3 with z | ⟨z, -⟩
                · exact z
                · cases z
              · refine Or.inr (Or.inr ⟨hmk.2.2 rfl, ?_⟩)
                rcases o3 with z | ⟨-, z⟩
                · exact Or.inl z
                · exact Or.inr z
            · rw [c6, if_neg hmk.1, o2, sc6]; rfl
            · rw [nop, if_neg hmk.1]; omega
          obtain ⟨τ', q1, q2⟩ := ih (a + 1) d false (mkOf (kd a) :: ws') c' (ss z 4 (nI (a + 1))) n12 F zS (by omega) (by omega) hd (by omega) (by omega) (by omega)
          simp only [if_true] at q1
          refine ⟨τ', ?_, PoE.pre zf' q2⟩
          have fin := into2 _ (into (some τ') (by
            rw [cal_w go, f_X8_expression_12]
            simp (disch := omega) only [↓bnd_i, ↓cal_s, ↓cal_n, ↓cal2_s, ↓cal2_n, cal_s, cal2_s, ↓reduceIte, fa_lit, m1_lit, m2_lit, m1_lt, m2_lt, m1_eq, m2_eq, m1_le, m2_le, le_m1, le_m2, lt_m1, lt_m2, m12, m21, m1_m1, n_lt, n_le, n_eq, lt_t, lt_f, le_t, le_f, eq_t, eq_f, n_cl, inb_ok, n_add, pk_mul, pk_sub, n_rem, n_div, n_dec, n_mx, n_mn, eq_m1, eq_m2, ss_same, ss_ne, ss_r, ss_l, sr_f, sr_l, sr_same, sr_ne, sw_f, sw_l, sw_at, sw_ne, pk_us, pk_un, bI_t, bI_f, not_true_eq_false, not_false_eq_true, eq_self, and_true, true_and, and_false, false_and, or_true, true_or, or_false, false_or, decide_true, decide_false, Bool.false_eq_true, Bool.true_eq_false, z6]
            exact q1))
          simp (disch := omega) only [↓bnd_i, ↓cal_s, ↓cal_n, ↓cal2_s, ↓cal2_n, cal_s, cal2_s, ↓reduceIte, fa_lit, m1_lit, m2_lit, m1_lt, m2_lt, m1_eq, m2_eq, m1_le, m2_le, le_m1, le_m2, lt_m1, lt_m2, m12, m21, m1_m1, n_lt, n_le, n_eq, lt_t, lt_f, le_t, le_f, eq_t, eq_f, n_cl, inb_ok, n_add, pk_mul, pk_sub, n_rem, n_div, n_dec, n_mx, n_mn, eq_m1, eq_m2, ss_same, ss_ne, ss_r, ss_l, sr_f, sr_l, sr_same, sr_ne, sw_f, sw_l, sw_at, sw_ne, pk_us, pk_un, bI_t, bI_f, not_true_eq_false, not_false_eq_true, eq_self, and_true, true_and, and_false, false_and, or_true, true_or, or_false, false_or, decide_true, decide_false, Bool.false_eq_true, Bool.true_eq_false, ↓cal_w (i7), i7]
          exact fin
        · simp only [a4, if_false]
          rw [if_neg a4] at go
          have y6 : (ss (ss z 6 (nI 2)) 7 (nI (pl a))).1 6 = nI 2 := by rw [ss_ne (by omega), ss_same]
          refine ⟨ss (ss z 6 (nI 2)) 7 (nI (pl a)), ?_, PoE.flt (by omega) ((zf.ss (by omega)).ss (by omega)) y6 ss_same⟩
          have fin := into2 _ (into (some (ss (ss z 6 (nI 2)) 7 (nI (pl a)))) (by
            rw [cal_w go, f_X8_expression_12]
            simp (disch := omega) only [↓bnd_i, ↓cal_s, ↓cal_n, ↓cal2_s, ↓cal2_n, cal_s, cal2_s, ↓reduceIte, fa_lit, m1_lit, m2_lit, m1_lt, m2_lt, m1_eq, m2_eq, m1_le, m2_le, le_m1, le_m2, lt_m1, lt_m2, m12, m21, m1_m1, n_lt, n_le, n_eq, lt_t, lt_f, le_t, le_f, eq_t, eq_f, n_cl, inb_ok, n_add, pk_mul, pk_sub, n_rem, n_div, n_dec, n_mx, n_mn, eq_m1, eq_m2, ss_same, ss_ne, ss_r, ss_l, sr_f, sr_l, sr_same, sr_ne, sw_f, sw_l, sw_at, sw_ne, pk_us, pk_un, bI_t, bI_f, not_true_eq_false, not_false_eq_true, eq_self, and_true, true_and, and_false, false_and, or_true, true_or, or_false, false_or, decide_true, decide_false, Bool.false_eq_true, Bool.true_eq_false, y6]))
          simp (disch := omega) only [↓bnd_i, ↓cal_s, ↓cal_n, ↓cal2_s, ↓cal2_n, cal_s, cal2_s, ↓reduceIte, fa_lit, m1_lit, m2_lit, m1_lt, m2_lt, m1_eq, m2_eq, m1_le, m2_le, le_m1, le_m2, lt_m1, lt_m2, m12, m21, m1_m1, n_lt, n_le, n_eq, lt_t, lt_f, le_t, le_f, eq_t, eq_f, n_cl, inb_ok, n_add, pk_mul, pk_sub, n_rem, n_div, n_dec, n_mx, n_mn, eq_m1, eq_m2, ss_same, ss_ne, ss_r, ss_l, sr_f, sr_l, sr_same, sr_ne, sw_f, sw_l, sw_at, sw_ne, pk_us, pk_un, bI_t, bI_f, not_true_eq_false, not_false_eq_true, eq_self, and_true, true_and, and_false, false_and, or_true, true_or, or_false, false_or, decide_true, decide_false, Bool.false_eq_true, Bool.true_eq_false, ↓cal_w (i7), i7]
          exact fin
      · simp only [ko, if_false]
        rw [decide_eq_false (show ¬ kd a = 22 by omega)] at i8
        rw [decide_eq_false (show ¬ kd a = 23 by omega)] at i9
        rw [decide_eq_false (show ¬ kd a = 24 by omega)] at i10
        rw [decide_eq_false (show ¬ kd a = 25 by omega)] at i15
        rw [decide_eq_false (show ¬ kd a = 26 by omega)] at i16
        obtain ⟨o1, o2, o3, o4, o5⟩ := outc_P false ws c sok
        obtain ⟨v, g1, g2, g3, g4, g5⟩ := t_out (F := F) false ws c F τ sok sW (by omega) (by omega) (by omega)
        have g1' : f_X8_comesOut F τ (nI 0) = some v := g1
        have v6 : v.1 6 = nI 0 := by rw [g4 6 (by omega) (by omega)]; exact s6
        have v4 : v.1 4 = nI a := by rw [g4 4 (by omega) (by omega)]; exact s4
        have v5 : v.1 5 = nI d := by rw [g4 5 (by omega) (by omega)]; exact s5
        by_cases kc : kd a = 28 ∧ 0 < d
        · simp only [kc, and_self, if_true]
          obtain ⟨kc1, kc2⟩ := kc
          have hae := kae (by omega)
          rw [decide_eq_true kc1] at i7
          obtain ⟨ws', hws⟩ : ∃ r, (outc false ws c).1 = 6 :: r := by
            cases h : (outc false ws c).1 with
            | nil => rw [h] at o2; have o2 : 0 = c6 ws := o2; omega
            | cons w r =>
              rw [h] at o3
              rcases o3 with z | ⟨z, -⟩
              · have z : w = 6 := z
                rw [z]; exact ⟨r, rfl⟩
              · cases z
          rw [hws] at o1 o2 o4 o5 g2 ⊢
          generalize hcc : (outc false ws c).2 = c' at *
          have o2' : c6 ws' + 1 = c6 ws := o2
          have o4' : c'.length + nop ws' = c.length + nop ws := o4
          have o5' : ws'.length + 1 ≤ ws.length := o5
          obtain ⟨w1, w2, w3, w4⟩ := g2
          have w1' : v.1 14 = nI (ws'.length + 1) := w1
          generalize hz : ss (ss v 14 (nI ws'.length)) 5 (nI (d - 1)) = z
          have zf : FmE c0 τ z := by rw [← hz]; exact (g3.ss (by omega)).ss (by omega)
          have z6 : z.1 6 = nI 0 := by rw [← hz, ss_ne (by omega), ss_ne (by omega)]; exact v6
          have z4 : z.1 4 = nI a := by rw [← hz, ss_ne (by omega), ss_ne (by omega)]; exact v4
          have z5 : z.1 5 = nI (d - 1) := by rw [← hz, ss_same]
          have zW : WC c0 ws' c' z := by
            refine ⟨by rw [← hz, ss_ne (by omega), ss_same], ?_, by rw [← hz, ss_ne (by omega), ss_ne (by omega)]; exact w3, ?_⟩
            · rw [← hz]; exact w2.2
            · rw [← hz]; exact w4
          have go := t_goesOn (F := F) z6 z4 h2 (K.fr (τ' := z) (fun r _ => zf.2.1 r (by omega)))
          by_cases a4 : a < 400
          · simp only [a4, if_true, List.tail_cons]
            rw [if_pos a4] at go
            have zf' : FmE c0 τ (ss z 4 (nI (a + 1))) := zf.ss (by omega)
            have zS : MS kd vl pl e c0 (a + 1) (d - 1) ws' c' (ss z 4 (nI (a + 1))) := by
              refine ⟨s1.fr (fun r _ => zf'.2.1 r (by omega)), ?_, ss_same, ?_, ⟨?_, ?_, ?_, ?_⟩, o1.1, by omega, by omega⟩
              · rw [ss_ne (by omega)]; exact z6
              · rw [ss_ne (by omega)]; exact z5
              · rw [ss_ne (by omega)]; exact zW.1
              · exact zW.2.1
              · rw [ss_ne (by omega)]; exact zW.2.2.1
              · exact zW.2.2.2
            obtain ⟨τ', q1, q2⟩ := ih (a + 1) (d - 1) true ws' c' (ss z 4 (nI (a + 1))) n12 nx zS (by omega) (by omega) (by omega) (by omega) (by omega) (by omega)
            simp only [Bool.true_eq_false, if_false] at q1
            refine ⟨τ', ?_, PoE.pre zf' q2⟩
            simp (disch := omega) only [↓bnd_i, ↓cal_s, ↓cal_n, ↓cal2_s, ↓cal2_n, cal_s, cal2_s, ↓reduceIte, fa_lit, m1_lit, m2_lit, m1_lt, m2_lt, m1_eq, m2_eq, m1_le, m2_le, le_m1, le_m2, lt_m1, lt_m2, m12, m21, m1_m1, n_lt, n_le, n_eq, lt_t, lt_f, le_t, le_f, eq_t, eq_f, n_cl, inb_ok, n_add, pk_mul, pk_sub, n_rem, n_div, n_dec, n_mx, n_mn, eq_m1, eq_m2, ss_same, ss_ne, ss_r, ss_l, sr_f, sr_l, sr_same, sr_ne, sw_f, sw_l, sw_at, sw_ne, pk_us, pk_un, bI_t, bI_f, not_true_eq_false, not_false_eq_true, eq_self, and_true, true_and, and_false, false_and, or_true, true_or, or_false, false_or, decide_true, decide_false, Bool.false_eq_true, Bool.true_eq_false, ↓cal_w (i7), i7, ↓cal_w (g1'), g1', s5, w1', Nat.add_sub_cancel, v5, hz]
            simp (disch := omega) only [↓bnd_i, ↓cal_s, ↓cal_n, ↓cal2_s, ↓cal2_n, cal_s, cal2_s, ↓reduceIte, fa_lit, m1_lit, m2_lit, m1_lt, m2_lt, m1_eq, m2_eq, m1_le, m2_le, le_m1, le_m2, lt_m1, lt_m2, m12, m21, m1_m1, n_lt, n_le, n_eq, lt_t, lt_f, le_t, le_f, eq_t, eq_f, n_cl, inb_ok, n_add, pk_mul, pk_sub, n_rem, n_div, n_dec, n_mx, n_mn, eq_m1, eq_m2, ss_same, ss_ne, ss_r, ss_l, sr_f, sr_l, sr_same, sr_ne, sw_f, sw_l, sw_at, sw_ne, pk_us, pk_un, bI_t, bI_f, not_true_eq_false, not_false_eq_true, eq_self, and_true, true_and, and_false, false_and, or_true, true_or, or_false, false_or, decide_true, decide_false, Bool.false_eq_true, Bool.true_eq_false, ↓cal_w (go), go]
            exact q1
          · simp only [a4, if_false]
            rw [if_neg a4] at go
            obtain ⟨nx', rfl⟩ : ∃ k, nx = k + 1 := ⟨nx - 1, by omega⟩
            generalize hy : ss (ss z 6 (nI 2)) 7 (nI (pl a)) = y at go
            have y6 : y.1 6 = nI 2 := by rw [← hy, ss_ne (by omega), ss_same]
            have y7 : y.1 7 = nI (pl a) := by rw [← hy, ss_same]
            have yf : FmE c0 τ y := by rw [← hy]; exact (zf.ss (by omega)).ss (by omega)
            have yW : WC c0 ws' c' y := by
              refine ⟨?_, ?_, ?_, ?_⟩
              · rw [← hy, ss_ne (by omega), ss_ne (by omega)]; exact zW.1
              · rw [← hy]; exact zW.2.1
              · rw [← hy, ss_ne (by omega), ss_ne (by omega)]; exact zW.2.2.1
              · rw [← hy]; exact zW.2.2.2
            obtain ⟨τ', q1, q2, q3, q4⟩ := t_flt145 (F := F) (by omega) (K := f_X8_expression_12 F n12) (d := d - 1) y6 (by omega) (by rw [← hy, ss_ne (by omega), ss_ne (by omega)]; exact z5) (by omega) o1.1 yW (by omega) (by omega)
            have j7 := t_isF (F := F) (y := nI 7) y6 (by omega)
            refine ⟨τ', ?_, PoE.flt (by omega) (yf.trans q2) q3 (by rw [q4]; exact y7)⟩
            simp (disch := omega) only [↓bnd_i, ↓cal_s, ↓cal_n, ↓cal2_s, ↓cal2_n, cal_s, cal2_s, ↓reduceIte, fa_lit, m1_lit, m2_lit, m1_lt, m2_lt, m1_eq, m2_eq, m1_le, m2_le, le_m1, le_m2, lt_m1, lt_m2, m12, m21, m1_m1, n_lt, n_le, n_eq, lt_t, lt_f, le_t, le_f, eq_t, eq_f, n_cl, inb_ok, n_add, pk_mul, pk_sub, n_rem, n_div, n_dec, n_mx, n_mn, eq_m1, eq_m2, ss_same, ss_ne, ss_r, ss_l, sr_f, sr_l, sr_same, sr_ne, sw_f, sw_l, sw_at, sw_ne, pk_us, pk_un, bI_t, bI_f, not_true_eq_false, not_false_eq_true, eq_self, and_true, true_and, and_false, false_and, or_true, true_or, or_false, false_or, decide_true, decide_false, Bool.false_eq_true, Bool.true_eq_false, ↓cal_w (i7), i7, ↓cal_w (g1'), g1', s5, w1', Nat.add_sub_cancel, v5, hz]
            simp (disch := omega) only [↓bnd_i, ↓cal_s, ↓cal_n, ↓cal2_s, ↓cal2_n, cal_s, cal2_s, ↓reduceIte, fa_lit, m1_lit, m2_lit, m1_lt, m2_lt, m1_eq, m2_eq, m1_le, m2_le, le_m1, le_m2, lt_m1, lt_m2, m12, m21, m1_m1, n_lt, n_le, n_eq, lt_t, lt_f, le_t, le_f, eq_t, eq_f, n_cl, inb_ok, n_add, pk_mul, pk_sub, n_rem, n_div, n_dec, n_mx, n_mn, eq_m1, eq_m2, ss_same, ss_ne, ss_r, ss_l, sr_f, sr_l, sr_same, sr_ne, sw_f, sw_l, sw_at, sw_ne, pk_us, pk_un, bI_t, bI_f, not_true_eq_false, not_false_eq_true, eq_self, and_true, true_and, and_false, false_and, or_true, true_or, or_false, false_or, decide_true, decide_false, Bool.false_eq_true, Bool.true_eq_false, ↓cal_w (go), go]
            rw [f_X8_expression_96]
            simp (disch := omega) only [↓bnd_i, ↓cal_s, ↓cal_n, ↓cal2_s, ↓cal2_n, cal_s, cal2_s, ↓reduceIte, fa_lit, m1_lit, m2_lit, m1_lt, m2_lt, m1_eq, m2_eq, m1_le, m2_le, le_m1, le_m2, lt_m1, lt_m2, m12, m21, m1_m1, n_lt, n_le, n_eq, lt_t, lt_f, le_t, le_f, eq_t, eq_f, n_cl, inb_ok, n_add, pk_mul, pk_sub, n_rem, n_div, n_dec, n_mx, n_mn, eq_m1, eq_m2, ss_same, ss_ne, ss_r, ss_l, sr_f, sr_l, sr_same, sr_ne, sw_f, sw_l, sw_at, sw_ne, pk_us, pk_un, bI_t, bI_f, not_true_eq_false, not_false_eq_true, eq_self, and_true, true_and, and_false, false_and, or_true, true_or, or_false, false_or, decide_true, decide_false, Bool.false_eq_true, Bool.true_eq_false, ↓cal_w (j7), j7]
            exact q1
        · simp only [kc, if_false]
          have into : ∀ (Q : Option St), f_X8_expression_195 F (f_X8_expression_12 F n12) τ (nI 0) (nI 0) = Q → cal (f_X8_is F τ (nI 7)) (fun r1 => if r1 = nI 0 then f_X8_expression_145 F (f_X8_expression_12 F n12) τ (nI 0) else (if (τ.1 5) ≤ nI 0 then (f_X8_expression_145 F (f_X8_expression_12 F n12) τ (nI 0)) else (cal (f_X8_comesOut F τ (nI 0)) (fun t4 => bnd (ss t4 14 ((t4.1 14) - nI 1)) (fun t5 => bnd (ss t5 5 ((t5.1 5) - nI 1)) (fun t6 => cal (f_X8_goesOn F t6) (fun t7 => f_X8_expression_96 F (f_X8_expression_12 F n12) nx t7 (nI 0)))))))) = Q := by
            intro Q hQ
            have h145 : f_X8_expression_145 F (f_X8_expression_12 F n12) τ (nI 0) = Q := by
              unfold f_X8_expression_145
              simp (disch := omega) only [↓bnd_i, ↓cal_s, ↓cal_n, ↓cal2_s, ↓cal2_n, cal_s, cal2_s, ↓reduceIte, fa_lit, m1_lit, m2_lit, m1_lt, m2_lt, m1_eq, m2_eq, m1_le, m2_le, le_m1, le_m2, lt_m1, lt_m2, m12, m21, m1_m1, n_lt, n_le, n_eq, lt_t, lt_f, le_t, le_f, eq_t, eq_f, n_cl, inb_ok, n_add, pk_mul, pk_sub, n_rem, n_div, n_dec, n_mx, n_mn, eq_m1, eq_m2, ss_same, ss_ne, ss_r, ss_l, sr_f, sr_l, sr_same, sr_ne, sw_f, sw_l, sw_at, sw_ne, pk_us, pk_un, bI_t, bI_f, not_true_eq_false, not_false_eq_true, eq_self, and_true, true_and, and_false, false_and, or_true, true_or, or_false, false_or, decide_true, decide_false, Bool.false_eq_true, Bool.true_eq_false, ↓cal_w (i8), i8, ↓cal_w (i9), i9, ↓cal_w (i10), i10, ↓cal_w (i15), i15, ↓cal_w (i16), i16]
              exact hQ
            by_cases k28 : kd a = 28
            · have d0 : d = 0 := by omega
              rw [decide_eq_true k28] at i7
              simp (disch := omega) only [↓bnd_i, ↓cal_s, ↓cal_n, ↓cal2_s, ↓cal2_n, cal_s, cal2_s, ↓reduceIte, fa_lit, m1_lit, m2_lit, m1_lt, m2_lt, m1_eq, m2_eq, m1_le, m2_le, le_m1, le_m2, lt_m1, lt_m2, m12, m21, m1_m1, n_lt, n_le, n_eq, lt_t, lt_f, le_t, le_f, eq_t, eq_f, n_cl, inb_ok, n_add, pk_mul, pk_sub, n_rem, n_div, n_dec, n_mx, n_mn, eq_m1, eq_m2, ss_same, ss_ne, ss_r, ss_l, sr_f, sr_l, sr_same, sr_ne, sw_f, sw_l, sw_at, sw_ne, pk_us, pk_un, bI_t, bI_f, not_true_eq_false, not_false_eq_true, eq_self, and_true, true_and, and_false, false_and, or_true, true_or, or_false, false_or, decide_true, decide_false, Bool.false_eq_true, Bool.true_eq_false, ↓cal_w (i7), i7, s5, d0]
              exact h145
            · rw [decide_eq_false k28] at i7
              simp (disch := omega) only [↓bnd_i, ↓cal_s, ↓cal_n, ↓cal2_s, ↓cal2_n, cal_s, cal2_s, ↓reduceIte, fa_lit, m1_lit, m2_lit, m1_lt, m2_lt, m1_eq, m2_eq, m1_le, m2_le, le_m1, le_m2, lt_m1, lt_m2, m12, m21, m1_m1, n_lt, n_le, n_eq, lt_t, lt_f, le_t, le_f, eq_t, eq_f, n_cl, inb_ok, n_add, pk_mul, pk_sub, n_rem, n_div, n_dec, n_mx, n_mn, eq_m1, eq_m2, ss_same, ss_ne, ss_r, ss_l, sr_f, sr_l, sr_same, sr_ne, sw_f, sw_l, sw_at, sw_ne, pk_us, pk_un, bI_t, bI_f, not_true_eq_false, not_false_eq_true, eq_self, and_true, true_and, and_false, false_and, or_true, true_or, or_false, false_or, decide_true, decide_false, Bool.false_eq_true, Bool.true_eq_false, ↓cal_w (i7), i7]
              exact h145
          by_cases d0 : d = 0
          · simp only [d0, if_true]
            refine ⟨v, ?_, ⟨g3, fun _ => ⟨v6, v4, by rw [v5, d0], ?_, g2.2.2.2, ?_⟩, fun q => absurd rfl q⟩⟩
            · refine into (some v) ?_
              unfold f_X8_expression_195
              simp (disch := omega) only [↓bnd_i, ↓cal_s, ↓cal_n, ↓cal2_s, ↓cal2_n, cal_s, cal2_s, ↓reduceIte, fa_lit, m1_lit, m2_lit, m1_lt, m2_lt, m1_eq, m2_eq, m1_le, m2_le, le_m1, le_m2, lt_m1, lt_m2, m12, m21, m1_m1, n_lt, n_le, n_eq, lt_t, lt_f, le_t, le_f, eq_t, eq_f, n_cl, inb_ok, n_add, pk_mul, pk_sub, n_rem, n_div, n_dec, n_mx, n_mn, eq_m1, eq_m2, ss_same, ss_ne, ss_r, ss_l, sr_f, sr_l, sr_same, sr_ne, sw_f, sw_l, sw_at, sw_ne, pk_us, pk_un, bI_t, bI_f, not_true_eq_false, not_false_eq_true, eq_self, and_true, true_and, and_false, false_and, or_true, true_or, or_false, false_or, decide_true, decide_false, Bool.false_eq_true, Bool.true_eq_false, ↓cal_w (g1'), g1', s5, d0]
            · exact g2.2.2.1
            · show c0 + (outc false ws c).2.length ≤ a
              omega
          · simp only [d0, if_false]
            generalize hy : ss (ss τ 6 (nI 1)) 7 (nI (pl a)) = y at *
            have y6 : y.1 6 = nI 1 := by rw [← hy, ss_ne (by omega), ss_same]
            have y7 : y.1 7 = nI (pl a) := by rw [← hy, ss_same]
            have yf : FmE c0 τ y := by rw [← hy]; exact fr0 1
            obtain ⟨w1, w2, w3, w4⟩ := sW
            have yW : WC c0 ws c y := by
              refine ⟨?_, ?_, ?_, ?_⟩
              · rw [← hy, ss_ne (by omega), ss_ne (by omega)]; exact w1
              · rw [← hy]; exact w2
              · rw [← hy, ss_ne (by omega), ss_ne (by omega)]; exact w3
              · rw [← hy]; exact w4
            obtain ⟨τ', q1, q2, q3, q4, q5⟩ := t_out (F := F) false ws c F y sok yW (by omega) (by omega) (by omega)
            have q1' : f_X8_comesOut F y (nI 0) = some τ' := q1
            have fl1 := fl0 1
            rw [hy] at fl1
            refine ⟨τ', ?_, PoE.flt (by omega) (yf.trans q3) (by rw [q4 6 (by omega) (by omega)]; exact y6) (by rw [q4 7 (by omega) (by omega)]; exact y7)⟩
            refine into (some τ') ?_
            unfold f_X8_expression_195
            simp (disch := omega) only [↓bnd_i, ↓cal_s, ↓cal_n, ↓cal2_s, ↓cal2_n, cal_s, cal2_s, ↓reduceIte, fa_lit, m1_lit, m2_lit, m1_lt, m2_lt, m1_eq, m2_eq, m1_le, m2_le, le_m1, le_m2, lt_m1, lt_m2, m12, m21, m1_m1, n_lt, n_le, n_eq, lt_t, lt_f, le_t, le_f, eq_t, eq_f, n_cl, inb_ok, n_add, pk_mul, pk_sub, n_rem, n_div, n_dec, n_mx, n_mn, eq_m1, eq_m2, ss_same, ss_ne, ss_r, ss_l, sr_f, sr_l, sr_same, sr_ne, sw_f, sw_l, sw_at, sw_ne, pk_us, pk_un, bI_t, bI_f, not_true_eq_false, not_false_eq_true, eq_self, and_true, true_and, and_false, false_and, or_true, true_or, or_false, false_or, decide_true, decide_false, Bool.false_eq_true, Bool.true_eq_false, ↓cal_w (fl1), fl1, ↓cal_w (q1'), q1', s5]
end
