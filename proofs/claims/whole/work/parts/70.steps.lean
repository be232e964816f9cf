/-! PURE: the steps of the grammar on both sides. An outcome: (0, where it goes on) or (the fault, where it is). -/
def nxO (a : Nat) : Nat × Nat := if a < 400 then (0, a + 1) else (2, a)
def exO (kd : Nat → Nat) (t a : Nat) : Nat × Nat := if kd a = t then nxO a else (1, a)
def biO (o : Nat × Nat) (f : Nat → Nat × Nat) : Nat × Nat := if o.1 = 0 then f o.2 else o
theorem biO_0 {o : Nat × Nat} {f : Nat → Nat × Nat} (h : o.1 = 0) : biO o f = f o.2 := if_pos h
theorem biO_n {o : Nat × Nat} {f : Nat → Nat × Nat} (h : o.1 ≠ 0) : biO o f = o := if_neg h
section
variable {kd vl pl : Nat → Nat} {e : Nat}
/-- where it may go on -/
def gO (e : Nat) (o : Nat × Nat) : Prop := o.1 ≤ 2 ∧ o.2 ≤ e ∧ o.2 ≤ 400
theorem nxO_g {a : Nat} (h : a < e) (h4 : a ≤ 400) : gO e (nxO a) := by
  unfold nxO gO
  by_cases c : a < 400
  · rw [if_pos c]; exact ⟨by show (0 : Nat) ≤ 2; omega, by show a + 1 ≤ e; omega, by show a + 1 ≤ 400; omega⟩
  · rw [if_neg c]; exact ⟨by show (2 : Nat) ≤ 2; omega, by show a ≤ e; omega, h4⟩
theorem exO_g (E : TkE kd vl pl e) {t a : Nat} (ht : t ≤ 28) (h : a ≤ e) (h4 : a ≤ 400) : gO e (exO kd t a) := by
  obtain ⟨e1, e2, e3, e4, e5, e6⟩ := E
  unfold exO
  by_cases c : kd a = t
  · rw [if_pos c]
    refine nxO_g ?_ h4
    by_cases z : a = e
    · rw [z] at c; rcases e3 with y | y <;> omega
    · omega
  · rw [if_neg c]; exact ⟨by show (1 : Nat) ≤ 2; omega, h, h4⟩
def DO (pl : Nat → Nat) (o : Nat × Nat) (σ σ' : St) : Prop := (o.1 = 0 → σ' = ss σ 20 (nI o.2)) ∧ (o.1 ≠ 0 → dFl pl o.1 o.2 σ σ')
def MO (pl : Nat → Nat) (o : Nat × Nat) (τ : St) : St := if o.1 = 0 then ss τ 4 (nI o.2) else ss (ss τ 6 (nI o.1)) 7 (nI (pl o.2))
theorem DO.bi {o : Nat × Nat} {f : Nat → Nat × Nat} {σ σ1 σ2 : St} (h1 : DO pl o σ σ1) (h0 : o.1 = 0) (h2 : DO pl (f o.2) σ1 σ2) : DO pl (biO o f) σ σ2 := by
  rw [biO_0 h0]
  have e1 := h1.1 h0
  subst e1
  refine ⟨fun q => by rw [h2.1 q, ss_ss], fun q => ?_⟩
  obtain ⟨x1, x2, x3⟩ := h2.2 q
  exact ⟨x1, x2, ((FrG.refl σ).ss (by omega) (by omega)).trans x3⟩
theorem DO.bn {o : Nat × Nat} {f : Nat → Nat × Nat} {σ σ1 : St} (h1 : DO pl o σ σ1) (h0 : o.1 ≠ 0) : DO pl (biO o f) σ σ1 := by
  rw [biO_n h0]; exact h1
theorem DO.fr {o : Nat × Nat} {σ σ' : St} (h : DO pl o σ σ') : FrG σ σ' := by
  by_cases c : o.1 = 0
  · rw [h.1 c]; exact (FrG.refl σ).ss (by omega) (by omega)
  · exact (h.2 c).2.2
theorem d_goO {F : Nat} {σ : St} (E : TkE kd vl pl e) (D : TkD kd vl pl e σ) {a : Nat} (ha : a ≤ e) (h20 : σ.1 20 = nI a) : ∃ σ', f_X1_goOver F σ = some (bI (decide ((nxO a).1 = 0)), σ') ∧ DO pl (nxO a) σ σ' := by
  have g := d_goOver (F := F) E D ha h20
  unfold nxO
  by_cases c : a < 400
  · rw [if_pos c] at g ⊢
    exact ⟨_, g, fun _ => rfl, fun q => absurd rfl q⟩
  · rw [if_neg c] at g ⊢
    exact ⟨_, g, fun q => (by cases q), fun _ => dFl_mk⟩
theorem d_expO {F : Nat} {σ : St} (E : TkE kd vl pl e) (D : TkD kd vl pl e σ) {a t : Nat} (ha : a ≤ e) (h20 : σ.1 20 = nI a) (ht : t ≤ 28) : ∃ σ', f_X1_expect F σ (nI t) = some (bI (decide ((exO kd t a).1 = 0)), σ') ∧ DO pl (exO kd t a) σ σ' := by
  have wk := d_kindAt (F := F) E D ha
  obtain ⟨σ', g1, g2⟩ := d_goO (F := F) E D ha h20
  have f1 := d_fail (F := F) E D 1 ha
  have kle : kd a ≤ 30 := by
    obtain ⟨e1, e2, e3, e4, e5, e6⟩ := E
    by_cases q : a = e
    · rw [q]; rcases e3 with z | z <;> omega
    · have := e2 a (by omega); omega
  unfold f_X1_expect exO
  by_cases c : kd a = t
  · rw [if_pos c]
    rw [c] at wk
    refine ⟨σ', ?_, g2⟩
    cases d : decide ((nxO a).1 = 0)
    · rw [d] at g1
      simp (disch := omega) only [↓bnd_i, ↓cal_s, ↓cal_n, ↓cal2_s, ↓cal2_n, cal_s, cal2_s, ↓reduceIte, fa_lit, m1_lit, m2_lit, m1_lt, m2_lt, m1_eq, m2_eq, m1_le, m2_le, le_m1, le_m2, lt_m1, lt_m2, m12, m21, m1_m1, n_lt, n_le, n_eq, lt_t, lt_f, le_t, le_f, eq_t, eq_f, n_cl, inb_ok, n_add, pk_mul, pk_sub, n_rem, n_div, n_dec, n_mx, n_mn, eq_m1, eq_m2, ss_same, ss_ne, ss_r, ss_l, sr_f, sr_l, sr_same, sr_ne, sw_f, sw_l, sw_at, sw_ne, pk_us, pk_un, bI_t, bI_f, not_true_eq_false, not_false_eq_true, eq_self, and_true, true_and, and_false, false_and, or_true, true_or, or_false, false_or, decide_true, decide_false, Bool.false_eq_true, Bool.true_eq_false, ↓cal_w (wk), wk, ↓cal2_w (show f_X1_goOver F σ = some (nI 0, σ') from g1), show f_X1_goOver F σ = some (nI 0, σ') from g1, h20]
    · rw [d] at g1
      simp (disch := omega) only [↓bnd_i, ↓cal_s, ↓cal_n, ↓cal2_s, ↓cal2_n, cal_s, cal2_s, ↓reduceIte, fa_lit, m1_lit, m2_lit, m1_lt, m2_lt, m1_eq, m2_eq, m1_le, m2_le, le_m1, le_m2, lt_m1, lt_m2, m12, m21, m1_m1, n_lt, n_le, n_eq, lt_t, lt_f, le_t, le_f, eq_t, eq_f, n_cl, inb_ok, n_add, pk_mul, pk_sub, n_rem, n_div, n_dec, n_mx, n_mn, eq_m1, eq_m2, ss_same, ss_ne, ss_r, ss_l, sr_f, sr_l, sr_same, sr_ne, sw_f, sw_l, sw_at, sw_ne, pk_us, pk_un, bI_t, bI_f, not_true_eq_false, not_false_eq_true, eq_self, and_true, true_and, and_false, false_and, or_true, true_or, or_false, false_or, decide_true, decide_false, Bool.false_eq_true, Bool.true_eq_false, ↓cal_w (wk), wk, ↓cal2_w (show f_X1_goOver F σ = some (nI 1, σ') from g1), show f_X1_goOver F σ = some (nI 1, σ') from g1, h20]
  · rw [if_neg c]
    refine ⟨ss (ss σ 21 (nI 1)) 22 (nI (pl a)), ?_, fun q => (by cases q), fun _ => dFl_mk⟩
    simp (disch := omega) only [↓bnd_i, ↓cal_s, ↓cal_n, ↓cal2_s, ↓cal2_n, cal_s, cal2_s, ↓reduceIte, fa_lit, m1_lit, m2_lit, m1_lt, m2_lt, m1_eq, m2_eq, m1_le, m2_le, le_m1, le_m2, lt_m1, lt_m2, m12, m21, m1_m1, n_lt, n_le, n_eq, lt_t, lt_f, le_t, le_f, eq_t, eq_f, n_cl, inb_ok, n_add, pk_mul, pk_sub, n_rem, n_div, n_dec, n_mx, n_mn, eq_m1, eq_m2, ss_same, ss_ne, ss_r, ss_l, sr_f, sr_l, sr_same, sr_ne, sw_f, sw_l, sw_at, sw_ne, pk_us, pk_un, bI_t, bI_f, not_true_eq_false, not_false_eq_true, eq_self, and_true, true_and, and_false, false_and, or_true, true_or, or_false, false_or, decide_true, decide_false, Bool.false_eq_true, Bool.true_eq_false, ↓cal_w (wk), wk, ↓cal2_w (f1), f1, h20]
/-- the model goes on -/
theorem MO_fl {o : Nat × Nat} {τ : St} (h : o.1 ≠ 0) : MO pl o τ = ss (ss τ 6 (nI o.1)) 7 (nI (pl o.2)) := if_neg h
theorem MO_ok {o : Nat × Nat} {τ : St} (h : o.1 = 0) : MO pl o τ = ss τ 4 (nI o.2) := if_pos h
theorem t_goO {F : Nat} {τ : St} {a m : Nat} (h6 : τ.1 6 = nI 0) (h4 : τ.1 4 = nI a) (ha : a ≤ 400) (K : MK kd vl pl a m τ) : f_X8_goesOn F τ = some (MO pl (nxO a) τ) := by
  rw [t_goesOn h6 h4 ha K]
  unfold nxO MO
  by_cases c : a < 400
  · rw [if_pos c, if_pos c]; rfl
  · rw [if_neg c, if_neg c]; rfl
theorem t_mustO {F : Nat} {τ : St} {a m : Nat} (h6 : τ.1 6 = nI 0) (h4 : τ.1 4 = nI a) (ha : a ≤ 400) (K : MK kd vl pl a m τ) : f_X8_must F τ (nI 4) = some (MO pl (exO kd 21 a) τ) := by
  have i4 := t_is (F := F) (x := 4) h6 h4 ha K (by omega)
  rw [K.i4] at i4
  have go := t_goO (F := F) h6 h4 ha K
  have fl := t_fail0 (F := F) (x := 1) h6 h4 ha K
  unfold f_X8_must exO
  by_cases c : kd a = 21
  · rw [decide_eq_true c] at i4
    rw [if_pos c]
    simp (disch := omega) only [↓bnd_i, ↓cal_s, ↓cal_n, ↓cal2_s, ↓cal2_n, cal_s, cal2_s, ↓reduceIte, fa_lit, m1_lit, m2_lit, m1_lt, m2_lt, m1_eq, m2_eq, m1_le, m2_le, le_m1, le_m2, lt_m1, lt_m2, m12, m21, m1_m1, n_lt, n_le, n_eq, lt_t, lt_f, le_t, le_f, eq_t, eq_f, n_cl, inb_ok, n_add, pk_mul, pk_sub, n_rem, n_div, n_dec, n_mx, n_mn, eq_m1, eq_m2, ss_same, ss_ne, ss_r, ss_l, sr_f, sr_l, sr_same, sr_ne, sw_f, sw_l, sw_at, sw_ne, pk_us, pk_un, bI_t, bI_f, not_true_eq_false, not_false_eq_true, eq_self, and_true, true_and, and_false, false_and, or_true, true_or, or_false, false_or, decide_true, decide_false, Bool.false_eq_true, Bool.true_eq_false, ↓cal_w (i4), i4, ↓cal_w (go), go]
  · rw [decide_eq_false c] at i4
    rw [if_neg c]
    simp (disch := omega) only [↓bnd_i, ↓cal_s, ↓cal_n, ↓cal2_s, ↓cal2_n, cal_s, cal2_s, ↓reduceIte, fa_lit, m1_lit, m2_lit, m1_lt, m2_lt, m1_eq, m2_eq, m1_le, m2_le, le_m1, le_m2, lt_m1, lt_m2, m12, m21, m1_m1, n_lt, n_le, n_eq, lt_t, lt_f, le_t, le_f, eq_t, eq_f, n_cl, inb_ok, n_add, pk_mul, pk_sub, n_rem, n_div, n_dec, n_mx, n_mn, eq_m1, eq_m2, ss_same, ss_ne, ss_r, ss_l, sr_f, sr_l, sr_same, sr_ne, sw_f, sw_l, sw_at, sw_ne, pk_us, pk_un, bI_t, bI_f, not_true_eq_false, not_false_eq_true, eq_self, and_true, true_and, and_false, false_and, or_true, true_or, or_false, false_or, decide_true, decide_false, Bool.false_eq_true, Bool.true_eq_false, ↓cal_w (i4), i4, ↓cal_w (fl), fl]
    rfl
theorem t_mustF {F : Nat} {τ : St} {x : Nat} {y : Int32} (h6 : τ.1 6 = nI x) (h0 : 1 ≤ x ∧ x ≤ 5) : f_X8_must F τ y = some τ := by
  have i4 := t_isF (F := F) (y := y) h6 h0
  have fl := t_failF (F := F) (y := nI 1) h6 h0
  unfold f_X8_must
  simp (disch := omega) only [↓bnd_i, ↓cal_s, ↓cal_n, ↓cal2_s, ↓cal2_n, cal_s, cal2_s, ↓reduceIte, fa_lit, m1_lit, m2_lit, m1_lt, m2_lt, m1_eq, m2_eq, m1_le, m2_le, le_m1, le_m2, lt_m1, lt_m2, m12, m21, m1_m1, n_lt, n_le, n_eq, lt_t, lt_f, le_t, le_f, eq_t, eq_f, n_cl, inb_ok, n_add, pk_mul, pk_sub, n_rem, n_div, n_dec, n_mx, n_mn, eq_m1, eq_m2, ss_same, ss_ne, ss_r, ss_l, sr_f, sr_l, sr_same, sr_ne, sw_f, sw_l, sw_at, sw_ne, pk_us, pk_un, bI_t, bI_f, not_true_eq_false, not_false_eq_true, eq_self, and_true, true_and, and_false, false_and, or_true, true_or, or_false, false_or, decide_true, decide_false, Bool.false_eq_true, Bool.true_eq_false, ↓cal_w (i4), i4, ↓cal_w (fl), fl]
/-- a number that is wrong -/
def wrg (kd vl : Nat → Nat) (n : Nat) : Bool := decide ((kd n = 0 ∧ (vl (n + 1) < 1 ∨ 8 < vl (n + 1))) ∨ (kd n = 1 ∧ (vl (n + 1) < 2 ∨ 8 < vl (n + 1))) ∨ (kd n = 12 ∧ 99 < vl (n + 1)))
/-- the first that is wrong, as the model keeps it -/
def WR (kd vl pl : Nat → Nat) (a : Nat) (τ : St) : Prop := (τ.1 8 = nI 0 ∧ ∀ n, n < a → wrg kd vl n = false) ∨ ∃ n0, n0 < a ∧ wrg kd vl n0 = true ∧ (∀ n, n < n0 → wrg kd vl n = false) ∧ τ.1 8 = nI 5 ∧ τ.1 9 = nI (pl (n0 + 1)) ∧ n0 + 1 < a
theorem WR.step {a b : Nat} {τ τ' : St} (h : WR kd vl pl a τ) (hab : a ≤ b) (hn : ∀ n, a ≤ n → n < b → wrg kd vl n = false) (h8 : τ'.1 8 = τ.1 8) (h9 : τ'.1 9 = τ.1 9) : WR kd vl pl b τ' := by
  rcases h with ⟨x1, x2⟩ | ⟨n0, x1, x2, x3, x4, x5, x6⟩
  · refine Or.inl ⟨by rw [h8]; exact x1, fun n hnb => ?_⟩
    by_cases c : n < a
    · exact x2 n c
    · exact hn n (by omega) hnb
  · exact Or.inr ⟨n0, by omega, x2, x3, by rw [h8]; exact x4, by rw [h9]; exact x5, by omega⟩
theorem wrg_n {n : Nat} (h : kd n ≠ 0 ∧ kd n ≠ 1 ∧ kd n ≠ 12) : wrg kd vl n = false := decide_eq_false (by omega)
/-- the model's number within bounds: at a the word, behind it the number -/
theorem t_bounded {F : Nat} {τ : St} {a m least most : Nat} (E : TkE kd vl pl e) (hle : a + 1 ≤ e) (h6 : τ.1 6 = nI 0) (h4 : τ.1 4 = nI (a + 1)) (ha : a + 1 ≤ 400) (K : MK kd vl pl (a + 1) m τ) (W : WR kd vl pl a τ) (hm : most < 10000) (hl : least < 100) (hw : wrg kd vl a = decide (vl (a + 1) < least ∨ most < vl (a + 1))) : ∃ v w x, f_X8_bounded F τ (nI least) (nI most) = some (v, MO pl (exO kd 20 (a + 1)) (ss (ss τ 8 w) 9 x)) ∧ (kd (a + 1) = 20 → v = nI (vl (a + 1))) ∧ ((exO kd 20 (a + 1)).1 = 0 → WR kd vl pl (a + 2) (ss (ss τ 8 w) 9 x)) := by
  obtain ⟨e1, e2, e3, e4, e5, e6⟩ := E
  have i2 := t_is (F := F) (x := 2) h6 h4 ha K (by omega)
  rw [K.i2] at i2
  have fl := t_fail0 (F := F) (x := 1) h6 h4 ha K
  have ss89 : ss (ss τ 8 (τ.1 8)) 9 (τ.1 9) = τ := by
    unfold ss
    have : upd (upd τ.1 8 (τ.1 8)) 9 (τ.1 9) = τ.1 := by
      funext j
      simp only [upd]
      by_cases q9 : j = 9
      · simp [q9]
      · by_cases q8 : j = 8 <;> simp [q8, q9]
    rw [this]
  by_cases c : kd (a + 1) = 20
  · rw [decide_eq_true c] at i2
    have v5 := K.2.2.2.2 c
    have v4 := K.2.2.2.1
    have hvl := e4 (a + 1) hle
    have w1 : wrg kd vl (a + 1) = false := wrg_n (by omega)
    have ex : exO kd 20 (a + 1) = nxO (a + 1) := if_pos c
    by_cases q : vl (a + 1) < least ∨ most < vl (a + 1)
    · -- it is wrong
      have wt : wrg kd vl a = true := by rw [hw]; exact decide_eq_true q
      have hwr : ∃ w x, f_X8_wrong F τ (nI 5) (nI (a + 1)) = some (ss (ss τ 8 w) 9 x) ∧ WR kd vl pl (a + 2) (ss (ss τ 8 w) 9 x) := by
        unfold f_X8_wrong
        rcases W with ⟨x1, x2⟩ | ⟨n0, x1, x2, x3, x4, x5, x6⟩
        · refine ⟨nI 5, nI (pl (a + 1)), ?_, Or.inr ⟨a, by omega, wt, x2, by rw [ss_ne (by omega), ss_same], ss_same, by omega⟩⟩
          simp (disch := omega) only [↓bnd_i, ↓cal_s, ↓cal_n, ↓cal2_s, ↓cal2_n, cal_s, cal2_s, ↓reduceIte, fa_lit, m1_lit, m2_lit, m1_lt, m2_lt, m1_eq, m2_eq, m1_le, m2_le, le_m1, le_m2, lt_m1, lt_m2, m12, m21, m1_m1, n_lt, n_le, n_eq, lt_t, lt_f, le_t, le_f, eq_t, eq_f, n_cl, inb_ok, n_add, pk_mul, pk_sub, n_rem, n_div, n_dec, n_mx, n_mn, eq_m1, eq_m2, ss_same, ss_ne, ss_r, ss_l, sr_f, sr_l, sr_same, sr_ne, sw_f, sw_l, sw_at, sw_ne, pk_us, pk_un, bI_t, bI_f, not_true_eq_false, not_false_eq_true, eq_self, and_true, true_and, and_false, false_and, or_true, true_or, or_false, false_or, decide_true, decide_false, Bool.false_eq_true, Bool.true_eq_false, h6, x1, v4]
        · have lt := e6 (n0 + 1) (a + 1) (by omega) hle ha
          have b1 := e5 (a + 1) hle
          refine ⟨τ.1 8, τ.1 9, ?_, ?_⟩
          · rw [ss89]
            simp (disch := omega) only [↓bnd_i, ↓cal_s, ↓cal_n, ↓cal2_s, ↓cal2_n, cal_s, cal2_s, ↓reduceIte, fa_lit, m1_lit, m2_lit, m1_lt, m2_lt, m1_eq, m2_eq, m1_le, m2_le, le_m1, le_m2, lt_m1, lt_m2, m12, m21, m1_m1, n_lt, n_le, n_eq, lt_t, lt_f, le_t, le_f, eq_t, eq_f, n_cl, inb_ok, n_add, pk_mul, pk_sub, n_rem, n_div, n_dec, n_mx, n_mn, eq_m1, eq_m2, ss_same, ss_ne, ss_r, ss_l, sr_f, sr_l, sr_same, sr_ne, sw_f, sw_l, sw_at, sw_ne, pk_us, pk_un, bI_t, bI_f, not_true_eq_false, not_false_eq_true, eq_self, and_true, true_and, and_false, false_and, or_true, true_or, or_false, false_or, decide_true, decide_false, Bool.false_eq_true, Bool.true_eq_false, h6, x4, x5, v4]
          · rw [ss89]
            exact Or.inr ⟨n0, by omega, x2, x3, x4, x5, by omega⟩
      obtain ⟨w, x, g1, g2⟩ := hwr
      have K' : MK kd vl pl (a + 1) m (ss (ss τ 8 w) 9 x) := K.fr (fun r _ => rfl)
      have go := t_goO (F := F) (τ := ss (ss τ 8 w) 9 x) (by rw [ss_ne (by omega), ss_ne (by omega)]; exact h6) (by rw [ss_ne (by omega), ss_ne (by omega)]; exact h4) ha K'
      refine ⟨nI (vl (a + 1)), w, x, ?_, fun _ => rfl, fun _ => g2⟩
      rw [ex]
      unfold f_X8_bounded
      by_cases q1 : vl (a + 1) < least
      · simp (disch := omega) only [↓bnd_i, ↓cal_s, ↓cal_n, ↓cal2_s, ↓cal2_n, cal_s, cal2_s, ↓reduceIte, fa_lit, m1_lit, m2_lit, m1_lt, m2_lt, m1_eq, m2_eq, m1_le, m2_le, le_m1, le_m2, lt_m1, lt_m2, m12, m21, m1_m1, n_lt, n_le, n_eq, lt_t, lt_f, le_t, le_f, eq_t, eq_f, n_cl, inb_ok, n_add, pk_mul, pk_sub, n_rem, n_div, n_dec, n_mx, n_mn, eq_m1, eq_m2, ss_same, ss_ne, ss_r, ss_l, sr_f, sr_l, sr_same, sr_ne, sw_f, sw_l, sw_at, sw_ne, pk_us, pk_un, bI_t, bI_f, not_true_eq_false, not_false_eq_true, eq_self, and_true, true_and, and_false, false_and, or_true, true_or, or_false, false_or, decide_true, decide_false, Bool.false_eq_true, Bool.true_eq_false, ↓cal_w (i2), i2, ↓cal_w (g1), g1, ↓cal_w (go), go, h6, h4, v5]
      · simp (disch := omega) only [↓bnd_i, ↓cal_s, ↓cal_n, ↓cal2_s, ↓cal2_n, cal_s, cal2_s, ↓reduceIte, fa_lit, m1_lit, m2_lit, m1_lt, m2_lt, m1_eq, m2_eq, m1_le, m2_le, le_m1, le_m2, lt_m1, lt_m2, m12, m21, m1_m1, n_lt, n_le, n_eq, lt_t, lt_f, le_t, le_f, eq_t, eq_f, n_cl, inb_ok, n_add, pk_mul, pk_sub, n_rem, n_div, n_dec, n_mx, n_mn, eq_m1, eq_m2, ss_same, ss_ne, ss_r, ss_l, sr_f, sr_l, sr_same, sr_ne, sw_f, sw_l, sw_at, sw_ne, pk_us, pk_un, bI_t, bI_f, not_true_eq_false, not_false_eq_true, eq_self, and_true, true_and, and_false, false_and, or_true, true_or, or_false, false_or, decide_true, decide_false, Bool.false_eq_true, Bool.true_eq_false, ↓cal_w (i2), i2, ↓cal_w (g1), g1, ↓cal_w (go), go, h6, h4, v5]
    · have wf : wrg kd vl a = false := by rw [hw]; exact decide_eq_false q
      have go := t_goO (F := F) h6 h4 ha K
      refine ⟨nI (vl (a + 1)), τ.1 8, τ.1 9, ?_, fun _ => rfl, fun _ => ?_⟩
      · rw [ss89, ex]
        unfold f_X8_bounded
        simp (disch := omega) only [↓bnd_i, ↓cal_s, ↓cal_n, ↓cal2_s, ↓cal2_n, cal_s, cal2_s, ↓reduceIte, fa_lit, m1_lit, m2_lit, m1_lt, m2_lt, m1_eq, m2_eq, m1_le, m2_le, le_m1, le_m2, lt_m1, lt_m2, m12, m21, m1_m1, n_lt, n_le, n_eq, lt_t, lt_f, le_t, le_f, eq_t, eq_f, n_cl, inb_ok, n_add, pk_mul, pk_sub, n_rem, n_div, n_dec, n_mx, n_mn, eq_m1, eq_m2, ss_same, ss_ne, ss_r, ss_l, sr_f, sr_l, sr_same, sr_ne, sw_f, sw_l, sw_at, sw_ne, pk_us, pk_un, bI_t, bI_f, not_true_eq_false, not_false_eq_true, eq_self, and_true, true_and, and_false, false_and, or_true, true_or, or_false, false_or, decide_true, decide_false, Bool.false_eq_true, Bool.true_eq_false, ↓cal_w (i2), i2, ↓cal_w (go), go, h6, h4, v5]
      · rw [ss89]
        refine W.step (by omega) (fun n h1 h2 => ?_) rfl rfl
        rcases (show n = a ∨ n = a + 1 by omega) with z | z
        · rw [z]; exact wf
        · rw [z]; exact w1
  · rw [decide_eq_false c] at i2
    have ex : exO kd 20 (a + 1) = (1, a + 1) := if_neg c
    refine ⟨nI least, τ.1 8, τ.1 9, ?_, fun q => absurd q c, fun q => ?_⟩
    · rw [ss89, ex]
      unfold f_X8_bounded
      simp (disch := omega) only [↓bnd_i, ↓cal_s, ↓cal_n, ↓cal2_s, ↓cal2_n, cal_s, cal2_s, ↓reduceIte, fa_lit, m1_lit, m2_lit, m1_lt, m2_lt, m1_eq, m2_eq, m1_le, m2_le, le_m1, le_m2, lt_m1, lt_m2, m12, m21, m1_m1, n_lt, n_le, n_eq, lt_t, lt_f, le_t, le_f, eq_t, eq_f, n_cl, inb_ok, n_add, pk_mul, pk_sub, n_rem, n_div, n_dec, n_mx, n_mn, eq_m1, eq_m2, ss_same, ss_ne, ss_r, ss_l, sr_f, sr_l, sr_same, sr_ne, sw_f, sw_l, sw_at, sw_ne, pk_us, pk_un, bI_t, bI_f, not_true_eq_false, not_false_eq_true, eq_self, and_true, true_and, and_false, false_and, or_true, true_or, or_false, false_or, decide_true, decide_false, Bool.false_eq_true, Bool.true_eq_false, ↓cal_w (i2), i2, ↓cal_w (fl), fl, h6]
      rfl
    · rw [ex] at q; cases q
theorem t_boundedF {F : Nat} {τ : St} {x : Nat} {y z : Int32} (h6 : τ.1 6 = nI x) (h0 : 1 ≤ x ∧ x ≤ 5) : f_X8_bounded F τ y z = some (y, τ) := by
  have fl := t_failF (F := F) (y := nI 1) h6 h0
  unfold f_X8_bounded
  simp (disch := omega) only [↓bnd_i, ↓cal_s, ↓cal_n, ↓cal2_s, ↓cal2_n, cal_s, cal2_s, ↓reduceIte, fa_lit, m1_lit, m2_lit, m1_lt, m2_lt, m1_eq, m2_eq, m1_le, m2_le, le_m1, le_m2, lt_m1, lt_m2, m12, m21, m1_m1, n_lt, n_le, n_eq, lt_t, lt_f, le_t, le_f, eq_t, eq_f, n_cl, inb_ok, n_add, pk_mul, pk_sub, n_rem, n_div, n_dec, n_mx, n_mn, eq_m1, eq_m2, ss_same, ss_ne, ss_r, ss_l, sr_f, sr_l, sr_same, sr_ne, sw_f, sw_l, sw_at, sw_ne, pk_us, pk_un, bI_t, bI_f, not_true_eq_false, not_false_eq_true, eq_self, and_true, true_and, and_false, false_and, or_true, true_or, or_false, false_or, decide_true, decide_false, Bool.false_eq_true, Bool.true_eq_false, ↓cal_w (fl), fl, h6]
end
