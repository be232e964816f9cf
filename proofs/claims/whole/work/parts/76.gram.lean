/-! PURE: all the tells, on both sides -/
section
variable {F : Nat} {kd vl pl : Nat → Nat} {e : Nat} {ps dp : Nat → Nat}
theorem d_doO (hF : 1000 < F) (E : TkE kd vl pl e) {σ : St} (D : TkD kd vl pl e σ) {a d s : Nat} (h1 : a < e) (h2 : a ≤ 400) (h20 : σ.1 20 = nI a) (hk : kd a = 12) (hd : d < 3) (k6 : St → Int32 → Int32 → Int32 → Option (Int32 × St)) : ∃ σ', f_X1_checkTells_43 F k6 σ (nI d) (nI s) (nI 12) = k6 σ' (nI (d + 1)) (bI (decide ((tO F kd vl a).1 = 0))) (nI (s + 1)) ∧ DO pl (tO F kd vl a) σ σ' := by
  rw [tO_12 hk]
  obtain ⟨σ1, g1, g2⟩ := d_goO (F := F) E D (by omega) h20
  have ga := nxO_g h1 h2
  unfold f_X1_checkTells_43 f_X1_checkTells_99 f_X1_checkTells_100 f_X1_checkTells_150
  by_cases c : (nxO a).1 = 0
  · rw [decide_eq_true c] at g1
    have es := g2.1 c
    obtain ⟨σ2, q1, q2⟩ := d_expO (F := F) E (D.fr g2.fr) (a := (nxO a).2) (t := 20) ga.2.1 (by rw [es, ss_same]) (by omega)
    have gb := exO_g E (t := 20) (by omega) ga.2.1 ga.2.2
    by_cases c2 : (exO kd 20 (nxO a).2).1 = 0
    · rw [decide_eq_true c2] at q1
      have es2 := q2.1 c2
      obtain ⟨σ3, r1, r2⟩ := d_expO (F := F) E (((D.fr g2.fr).fr q2.fr)) (a := (exO kd 20 (nxO a).2).2) (t := 21) gb.2.1 (by rw [es2, ss_same]) (by omega)
      have bb := DO.bi (f := fun b => biO (exO kd 20 b) (exO kd 21)) g2 c (DO.bi q2 c2 r2)
      refine ⟨σ3, ?_, bb⟩
      rw [biO_0 c, biO_0 c2]
      cases d3 : decide ((exO kd 21 (exO kd 20 (nxO a).2).2).1 = 0)
      · rw [d3] at r1
        simp (disch := omega) only [↓bnd_i, ↓cal_s, ↓cal_n, ↓cal2_s, ↓cal2_n, cal_s, cal2_s, ↓reduceIte, fa_lit, m1_lit, m2_lit, m1_lt, m2_lt, m1_eq, m2_eq, m1_le, m2_le, le_m1, le_m2, lt_m1, lt_m2, m12, m21, m1_m1, n_lt, n_le, n_eq, lt_t, lt_f, le_t, le_f, eq_t, eq_f, n_cl, inb_ok, n_add, pk_mul, pk_sub, n_rem, n_div, n_dec, n_mx, n_mn, eq_m1, eq_m2, ss_same, ss_ne, ss_r, ss_l, sr_f, sr_l, sr_same, sr_ne, sw_f, sw_l, sw_at, sw_ne, pk_us, pk_un, bI_t, bI_f, not_true_eq_false, not_false_eq_true, eq_self, and_true, true_and, and_false, false_and, or_true, true_or, or_false, false_or, decide_true, decide_false, Bool.false_eq_true, Bool.true_eq_false, ↓cal2_w (show f_X1_goOver F σ = some (nI 1, σ1) from g1), show f_X1_goOver F σ = some (nI 1, σ1) from g1, ↓cal2_w (show f_X1_expect F σ1 (nI 20) = some (nI 1, σ2) from q1), show f_X1_expect F σ1 (nI 20) = some (nI 1, σ2) from q1, ↓cal2_w (show f_X1_expect F σ2 (nI 21) = some (nI 0, σ3) from r1), show f_X1_expect F σ2 (nI 21) = some (nI 0, σ3) from r1]
      · rw [d3] at r1
        simp (disch := omega) only [↓bnd_i, ↓cal_s, ↓cal_n, ↓cal2_s, ↓cal2_n, cal_s, cal2_s, ↓reduceIte, fa_lit, m1_lit, m2_lit, m1_lt, m2_lt, m1_eq, m2_eq, m1_le, m2_le, le_m1, le_m2, lt_m1, lt_m2, m12, m21, m1_m1, n_lt, n_le, n_eq, lt_t, lt_f, le_t, le_f, eq_t, eq_f, n_cl, inb_ok, n_add, pk_mul, pk_sub, n_rem, n_div, n_dec, n_mx, n_mn, eq_m1, eq_m2, ss_same, ss_ne, ss_r, ss_l, sr_f, sr_l, sr_same, sr_ne, sw_f, sw_l, sw_at, sw_ne, pk_us, pk_un, bI_t, bI_f, not_true_eq_false, not_false_eq_true, eq_self, and_true, true_and, and_false, false_and, or_true, true_or, or_false, false_or, decide_true, decide_false, Bool.false_eq_true, Bool.true_eq_false, ↓cal2_w (show f_X1_goOver F σ = some (nI 1, σ1) from g1), show f_X1_goOver F σ = some (nI 1, σ1) from g1, ↓cal2_w (show f_X1_expect F σ1 (nI 20) = some (nI 1, σ2) from q1), show f_X1_expect F σ1 (nI 20) = some (nI 1, σ2) from q1, ↓cal2_w (show f_X1_expect F σ2 (nI 21) = some (nI 1, σ3) from r1), show f_X1_expect F σ2 (nI 21) = some (nI 1, σ3) from r1]
    · have bb := DO.bi (f := fun b => biO (exO kd 20 b) (exO kd 21)) g2 c (DO.bn q2 c2)
      rw [decide_eq_false c2] at q1
      refine ⟨σ2, ?_, bb⟩
      rw [biO_0 c, biO_n c2, decide_eq_false c2]
      simp (disch := omega) only [↓bnd_i, ↓cal_s, ↓cal_n, ↓cal2_s, ↓cal2_n, cal_s, cal2_s, ↓reduceIte, fa_lit, m1_lit, m2_lit, m1_lt, m2_lt, m1_eq, m2_eq, m1_le, m2_le, le_m1, le_m2, lt_m1, lt_m2, m12, m21, m1_m1, n_lt, n_le, n_eq, lt_t, lt_f, le_t, le_f, eq_t, eq_f, n_cl, inb_ok, n_add, pk_mul, pk_sub, n_rem, n_div, n_dec, n_mx, n_mn, eq_m1, eq_m2, ss_same, ss_ne, ss_r, ss_l, sr_f, sr_l, sr_same, sr_ne, sw_f, sw_l, sw_at, sw_ne, pk_us, pk_un, bI_t, bI_f, not_true_eq_false, not_false_eq_true, eq_self, and_true, true_and, and_false, false_and, or_true, true_or, or_false, false_or, decide_true, decide_false, Bool.false_eq_true, Bool.true_eq_false, ↓cal2_w (show f_X1_goOver F σ = some (nI 1, σ1) from g1), show f_X1_goOver F σ = some (nI 1, σ1) from g1, ↓cal2_w (show f_X1_expect F σ1 (nI 20) = some (nI 0, σ2) from q1), show f_X1_expect F σ1 (nI 20) = some (nI 0, σ2) from q1]
  · rw [decide_eq_false c] at g1
    have bb := DO.bn (f := fun b => biO (exO kd 20 b) (exO kd 21)) g2 c
    refine ⟨σ1, ?_, bb⟩
    rw [biO_n c, decide_eq_false c]
    simp (disch := omega) only [↓bnd_i, ↓cal_s, ↓cal_n, ↓cal2_s, ↓cal2_n, cal_s, cal2_s, ↓reduceIte, fa_lit, m1_lit, m2_lit, m1_lt, m2_lt, m1_eq, m2_eq, m1_le, m2_le, le_m1, le_m2, lt_m1, lt_m2, m12, m21, m1_m1, n_lt, n_le, n_eq, lt_t, lt_f, le_t, le_f, eq_t, eq_f, n_cl, inb_ok, n_add, pk_mul, pk_sub, n_rem, n_div, n_dec, n_mx, n_mn, eq_m1, eq_m2, ss_same, ss_ne, ss_r, ss_l, sr_f, sr_l, sr_same, sr_ne, sw_f, sw_l, sw_at, sw_ne, pk_us, pk_un, bI_t, bI_f, not_true_eq_false, not_false_eq_true, eq_self, and_true, true_and, and_false, false_and, or_true, true_or, or_false, false_or, decide_true, decide_false, Bool.false_eq_true, Bool.true_eq_false, ↓cal2_w (show f_X1_goOver F σ = some (nI 0, σ1) from g1), show f_X1_goOver F σ = some (nI 0, σ1) from g1]
theorem d_endO (hF : 1000 < F) (E : TkE kd vl pl e) {σ : St} (D : TkD kd vl pl e σ) {a d s : Nat} (h1 : a < e) (h2 : a ≤ 400) (h20 : σ.1 20 = nI a) (hk : kd a = 13) (hd : 0 < d) (hd3 : d ≤ 3) (k6 : St → Int32 → Int32 → Int32 → Option (Int32 × St)) : ∃ σ', f_X1_checkTells_43 F k6 σ (nI d) (nI s) (nI 13) = k6 σ' (nI (d - 1)) (bI (decide ((tO F kd vl a).1 = 0))) (nI (s + 1)) ∧ DO pl (tO F kd vl a) σ σ' := by
  rw [tO_13 hk]
  obtain ⟨σ1, g1, g2⟩ := d_goO (F := F) E D (by omega) h20
  have ga := nxO_g h1 h2
  unfold f_X1_checkTells_43 f_X1_checkTells_138 f_X1_checkTells_139 f_X1_checkTells_150
  by_cases c : (nxO a).1 = 0
  · rw [decide_eq_true c] at g1
    have es := g2.1 c
    obtain ⟨σ2, q1, q2⟩ := d_expO (F := F) E (D.fr g2.fr) (a := (nxO a).2) (t := 21) ga.2.1 (by rw [es, ss_same]) (by omega)
    have bb := DO.bi (f := exO kd 21) g2 c q2
    refine ⟨σ2, ?_, bb⟩
    rw [biO_0 c]
    cases d3 : decide ((exO kd 21 (nxO a).2).1 = 0)
    · rw [d3] at q1
      simp (disch := omega) only [↓bnd_i, ↓cal_s, ↓cal_n, ↓cal2_s, ↓cal2_n, cal_s, cal2_s, ↓reduceIte, fa_lit, m1_lit, m2_lit, m1_lt, m2_lt, m1_eq, m2_eq, m1_le, m2_le, le_m1, le_m2, lt_m1, lt_m2, m12, m21, m1_m1, n_lt, n_le, n_eq, lt_t, lt_f, le_t, le_f, eq_t, eq_f, n_cl, inb_ok, n_add, pk_mul, pk_sub, n_rem, n_div, n_dec, n_mx, n_mn, eq_m1, eq_m2, ss_same, ss_ne, ss_r, ss_l, sr_f, sr_l, sr_same, sr_ne, sw_f, sw_l, sw_at, sw_ne, pk_us, pk_un, bI_t, bI_f, not_true_eq_false, not_false_eq_true, eq_self, and_true, true_and, and_false, false_and, or_true, true_or, or_false, false_or, decide_true, decide_false, Bool.false_eq_true, Bool.true_eq_false, ↓cal2_w (show f_X1_goOver F σ = some (nI 1, σ1) from g1), show f_X1_goOver F σ = some (nI 1, σ1) from g1, ↓cal2_w (show f_X1_expect F σ1 (nI 21) = some (nI 0, σ2) from q1), show f_X1_expect F σ1 (nI 21) = some (nI 0, σ2) from q1]
    · rw [d3] at q1
      simp (disch := omega) only [↓bnd_i, ↓cal_s, ↓cal_n, ↓cal2_s, ↓cal2_n, cal_s, cal2_s, ↓reduceIte, fa_lit, m1_lit, m2_lit, m1_lt, m2_lt, m1_eq, m2_eq, m1_le, m2_le, le_m1, le_m2, lt_m1, lt_m2, m12, m21, m1_m1, n_lt, n_le, n_eq, lt_t, lt_f, le_t, le_f, eq_t, eq_f, n_cl, inb_ok, n_add, pk_mul, pk_sub, n_rem, n_div, n_dec, n_mx, n_mn, eq_m1, eq_m2, ss_same, ss_ne, ss_r, ss_l, sr_f, sr_l, sr_same, sr_ne, sw_f, sw_l, sw_at, sw_ne, pk_us, pk_un, bI_t, bI_f, not_true_eq_false, not_false_eq_true, eq_self, and_true, true_and, and_false, false_and, or_true, true_or, or_false, false_or, decide_true, decide_false, Bool.false_eq_true, Bool.true_eq_false, ↓cal2_w (show f_X1_goOver F σ = some (nI 1, σ1) from g1), show f_X1_goOver F σ = some (nI 1, σ1) from g1, ↓cal2_w (show f_X1_expect F σ1 (nI 21) = some (nI 1, σ2) from q1), show f_X1_expect F σ1 (nI 21) = some (nI 1, σ2) from q1]
  · rw [decide_eq_false c] at g1
    have bb := DO.bn (f := exO kd 21) g2 c
    refine ⟨σ1, ?_, bb⟩
    rw [biO_n c, decide_eq_false c]
    simp (disch := omega) only [↓bnd_i, ↓cal_s, ↓cal_n, ↓cal2_s, ↓cal2_n, cal_s, cal2_s, ↓reduceIte, fa_lit, m1_lit, m2_lit, m1_lt, m2_lt, m1_eq, m2_eq, m1_le, m2_le, le_m1, le_m2, lt_m1, lt_m2, m12, m21, m1_m1, n_lt, n_le, n_eq, lt_t, lt_f, le_t, le_f, eq_t, eq_f, n_cl, inb_ok, n_add, pk_mul, pk_sub, n_rem, n_div, n_dec, n_mx, n_mn, eq_m1, eq_m2, ss_same, ss_ne, ss_r, ss_l, sr_f, sr_l, sr_same, sr_ne, sw_f, sw_l, sw_at, sw_ne, pk_us, pk_un, bI_t, bI_f, not_true_eq_false, not_false_eq_true, eq_self, and_true, true_and, and_false, false_and, or_true, true_or, or_false, false_or, decide_true, decide_false, Bool.false_eq_true, Bool.true_eq_false, ↓cal2_w (show f_X1_goOver F σ = some (nI 0, σ1) from g1), show f_X1_goOver F σ = some (nI 0, σ1) from g1]
theorem t_102F {m x : Nat} {τ : St} {p q : Int32} (h6 : τ.1 6 = nI x) (h0 : 1 ≤ x ∧ x ≤ 5) : f_X8_read_102 F (m + 1) τ p q = f_X8_read_143 F τ p q := by
  rw [f_X8_read_102]
  unfold f_X8_read_124
  simp (disch := omega) only [↓bnd_i, ↓cal_s, ↓cal_n, ↓cal2_s, ↓cal2_n, cal_s, cal2_s, ↓reduceIte, fa_lit, m1_lit, m2_lit, m1_lt, m2_lt, m1_eq, m2_eq, m1_le, m2_le, le_m1, le_m2, lt_m1, lt_m2, m12, m21, m1_m1, n_lt, n_le, n_eq, lt_t, lt_f, le_t, le_f, eq_t, eq_f, n_cl, inb_ok, n_add, pk_mul, pk_sub, n_rem, n_div, n_dec, n_mx, n_mn, eq_m1, eq_m2, ss_same, ss_ne, ss_r, ss_l, sr_f, sr_l, sr_same, sr_ne, sw_f, sw_l, sw_at, sw_ne, pk_us, pk_un, bI_t, bI_f, not_true_eq_false, not_false_eq_true, eq_self, and_true, true_and, and_false, false_and, or_true, true_or, or_false, false_or, decide_true, decide_false, Bool.false_eq_true, Bool.true_eq_false, h6]
/-- how the tells come out, on both sides -/
def GrR (F : Nat) (kd vl pl : Nat → Nat) (e : Nat) (ps dp : Nat → Nat) (σ : St) (r : Int32) (σ' τ' : St) : Prop := (r = nI 0 ∧ ∃ x k, (1 ≤ x ∧ x ≤ 2) ∧ dFl pl x k σ σ' ∧ τ'.1 6 = nI x ∧ τ'.1 7 = nI (pl k)) ∨ (r = nI 1 ∧ ∃ T c, σ' = ss σ 20 (nI (ps T)) ∧ GS F kd vl pl e ps dp T c [] τ' ∧ kd (ps T) = 29 ∧ dp T = 0)
theorem gram (hF : 1000 < F) (E : TkE kd vl pl e) (hps : ∀ k, ps (k + 1) = (tO F kd vl (ps k)).2) (hdp : ∀ k, dp (k + 1) = if kd (ps k) = 12 then dp k + 1 else if kd (ps k) = 13 then dp k - 1 else dp k) : ∀ (n m K s c : Nat) (ob : List Nat) (σ τ : St), TkD kd vl pl e σ → σ.1 20 = nI (ps K) → GS F kd vl pl e ps dp K c ob τ → s ≤ ps K → 402 < n + ps K → 402 < m + ps K → ∃ r σ' τ', f_X1_checkTells_6 F n σ (nI (dp K)) (nI 1) (nI s) = some (r, σ') ∧ FrG σ σ' ∧ FmP τ τ' ∧ (∀ x y, f_X8_read_102 F m τ x y = f_X8_read_143 F τ' x y) ∧ GrR F kd vl pl e ps dp σ r σ' τ' := by
  have E' := E
  obtain ⟨e1, e2, e3, e4, e5, e6⟩ := E'
  intro n
  induction n with
  | zero => intro m K s c ob σ τ _ _ G _ h; have := G.2.1.2.1; omega
  | succ n ih =>
    intro m K s c ob σ τ D h20 G hs hn hm
    have G0 := G
    obtain ⟨⟨M, g6, g4, g5, g11, g12, g13, gc⟩, ⟨a1, a2, a3⟩, W, ⟨o1, o2, o3, o4⟩, P, Q1, Q2⟩ := G
    obtain ⟨n, rfl⟩ : ∃ k, n = k + 1 := ⟨n - 1, by omega⟩
    obtain ⟨m, rfl⟩ : ∃ k, m = k + 2 := ⟨m - 2, by omega⟩
    obtain ⟨mm, K0⟩ := MK.of E M a1 a2
    have wk := d_kindAt (F := F) E D a1
    have kle : kd (ps K) ≤ 30 := by
      by_cases q : ps K = e
      · rw [q]; rcases e3 with z | z <;> omega
      · have := e2 (ps K) (by omega); omega
    have i0 := t_is (F := F) (x := 0) g6 g4 a2 K0 (by omega)
    rw [K0.i0] at i0
    have stop0 : ∀ (σ' : St) (d' s' : Nat), s' ≤ 500 → f_X1_checkTells_6 F (n + 1) σ' (nI d') (nI 0) (nI s') = some (nI 0, σ') := by
      intro σ' d' s' h
      rw [f_X1_checkTells_6]
      by_cases c : 400 < s'
      · simp (disch := omega) only [↓bnd_i, ↓cal_s, ↓cal_n, ↓cal2_s, ↓cal2_n, cal_s, cal2_s, ↓reduceIte, fa_lit, m1_lit, m2_lit, m1_lt, m2_lt, m1_eq, m2_eq, m1_le, m2_le, le_m1, le_m2, lt_m1, lt_m2, m12, m21, m1_m1, n_lt, n_le, n_eq, lt_t, lt_f, le_t, le_f, eq_t, eq_f, n_cl, inb_ok, n_add, pk_mul, pk_sub, n_rem, n_div, n_dec, n_mx, n_mn, eq_m1, eq_m2, ss_same, ss_ne, ss_r, ss_l, sr_f, sr_l, sr_same, sr_ne, sw_f, sw_l, sw_at, sw_ne, pk_us, pk_un, bI_t, bI_f, not_true_eq_false, not_false_eq_true, eq_self, and_true, true_and, and_false, false_and, or_true, true_or, or_false, false_or, decide_true, decide_false, Bool.false_eq_true, Bool.true_eq_false]
      · simp (disch := omega) only [↓bnd_i, ↓cal_s, ↓cal_n, ↓cal2_s, ↓cal2_n, cal_s, cal2_s, ↓reduceIte, fa_lit, m1_lit, m2_lit, m1_lt, m2_lt, m1_eq, m2_eq, m1_le, m2_le, le_m1, le_m2, lt_m1, lt_m2, m12, m21, m1_m1, n_lt, n_le, n_eq, lt_t, lt_f, le_t, le_f, eq_t, eq_f, n_cl, inb_ok, n_add, pk_mul, pk_sub, n_rem, n_div, n_dec, n_mx, n_mn, eq_m1, eq_m2, ss_same, ss_ne, ss_r, ss_l, sr_f, sr_l, sr_same, sr_ne, sw_f, sw_l, sw_at, sw_ne, pk_us, pk_un, bI_t, bI_f, not_true_eq_false, not_false_eq_true, eq_self, and_true, true_and, and_false, false_and, or_true, true_or, or_false, false_or, decide_true, decide_false, Bool.false_eq_true, Bool.true_eq_false]
    have fal : ∀ (x : Nat) (k : Nat) (σ' τ' : St) (d' : Nat), (1 ≤ x ∧ x ≤ 2) → dFl pl x k σ σ' → FmP τ τ' → τ'.1 6 = nI x → τ'.1 7 = nI (pl k) → f_X1_checkTells_6 F (n + 1 + 1) σ (nI (dp K)) (nI 1) (nI s) = f_X1_checkTells_6 F (n + 1) σ' (nI d') (nI 0) (nI (s + 1)) → (∀ x y, f_X8_read_102 F (m + 2) τ x y = f_X8_read_143 F τ' x y) → ∃ r σ' τ', f_X1_checkTells_6 F (n + 1 + 1) σ (nI (dp K)) (nI 1) (nI s) = some (r, σ') ∧ FrG σ σ' ∧ FmP τ τ' ∧ (∀ x y, f_X8_read_102 F (m + 2) τ x y = f_X8_read_143 F τ' x y) ∧ GrR F kd vl pl e ps dp σ r σ' τ' := by
      intro x k σ' τ' d' hx hf hfp h6 h7 hd hr
      exact ⟨nI 0, σ', τ', by rw [hd, stop0 σ' d' (s + 1) (by omega)], hf.2.2, hfp, hr, Or.inl ⟨rfl, x, k, hx, hf, h6, h7⟩⟩
    by_cases k29 : kd (ps K) = 29
    · rw [decide_eq_true k29] at i0
      by_cases d0 : dp K = 0
      · refine ⟨nI 1, σ, τ, ?_, FrG.refl σ, FmP.refl τ, fun x y => ?_, Or.inr ⟨rfl, K, c, ?_, ?_, k29, d0⟩⟩
        · rw [k29] at wk
          rw [f_X1_checkTells_6]
          simp (disch := omega) only [↓bnd_i, ↓cal_s, ↓cal_n, ↓cal2_s, ↓cal2_n, cal_s, cal2_s, ↓reduceIte, fa_lit, m1_lit, m2_lit, m1_lt, m2_lt, m1_eq, m2_eq, m1_le, m2_le, le_m1, le_m2, lt_m1, lt_m2, m12, m21, m1_m1, n_lt, n_le, n_eq, lt_t, lt_f, le_t, le_f, eq_t, eq_f, n_cl, inb_ok, n_add, pk_mul, pk_sub, n_rem, n_div, n_dec, n_mx, n_mn, eq_m1, eq_m2, ss_same, ss_ne, ss_r, ss_l, sr_f, sr_l, sr_same, sr_ne, sw_f, sw_l, sw_at, sw_ne, pk_us, pk_un, bI_t, bI_f, not_true_eq_false, not_false_eq_true, eq_self, and_true, true_and, and_false, false_and, or_true, true_or, or_false, false_or, decide_true, decide_false, Bool.false_eq_true, Bool.true_eq_false, ↓cal_w (wk), wk, h20, d0]
        · rw [f_X8_read_102]
          unfold f_X8_read_124
          simp (disch := omega) only [↓bnd_i, ↓cal_s, ↓cal_n, ↓cal2_s, ↓cal2_n, cal_s, cal2_s, ↓reduceIte, fa_lit, m1_lit, m2_lit, m1_lt, m2_lt, m1_eq, m2_eq, m1_le, m2_le, le_m1, le_m2, lt_m1, lt_m2, m12, m21, m1_m1, n_lt, n_le, n_eq, lt_t, lt_f, le_t, le_f, eq_t, eq_f, n_cl, inb_ok, n_add, pk_mul, pk_sub, n_rem, n_div, n_dec, n_mx, n_mn, eq_m1, eq_m2, ss_same, ss_ne, ss_r, ss_l, sr_f, sr_l, sr_same, sr_ne, sw_f, sw_l, sw_at, sw_ne, pk_us, pk_un, bI_t, bI_f, not_true_eq_false, not_false_eq_true, eq_self, and_true, true_and, and_false, false_and, or_true, true_or, or_false, false_or, decide_true, decide_false, Bool.false_eq_true, Bool.true_eq_false, ↓cal_w (i0), i0, g6, g12, d0]
        · unfold ss
          rw [← h20]
          have : upd σ.1 20 (σ.1 20) = σ.1 := by
            funext j
            simp only [upd]
            by_cases q : j = 20 <;> simp [q]
          rw [this]
        · have ob0 : ob = [] := by
            cases ob with
            | nil => rfl
            | cons d r => have o2 : r.length + 1 = dp K := o2; omega
          rw [ob0] at G0
          exact G0
      · have f1 := d_fail (F := F) E D 1 a1
        have fl := t_fail0 (F := F) (x := 1) g6 g4 a2 K0
        refine fal 1 (ps K) _ (ss (ss τ 6 (nI 1)) 7 (nI (pl (ps K)))) (dp K) (by omega) (dFl_mk) (((FmP.refl τ).ss (by omega)).ss (by omega)) (by rw [ss_ne (by omega), ss_same]) ss_same ?_ (fun x y => ?_)
        · rw [k29] at wk
          rw [f_X1_checkTells_6]
          unfold f_X1_checkTells_43 f_X1_checkTells_143 f_X1_checkTells_150 f_X1_checkTell
          simp (disch := omega) only [↓bnd_i, ↓cal_s, ↓cal_n, ↓cal2_s, ↓cal2_n, cal_s, cal2_s, ↓reduceIte, fa_lit, m1_lit, m2_lit, m1_lt, m2_lt, m1_eq, m2_eq, m1_le, m2_le, le_m1, le_m2, lt_m1, lt_m2, m12, m21, m1_m1, n_lt, n_le, n_eq, lt_t, lt_f, le_t, le_f, eq_t, eq_f, n_cl, inb_ok, n_add, pk_mul, pk_sub, n_rem, n_div, n_dec, n_mx, n_mn, eq_m1, eq_m2, ss_same, ss_ne, ss_r, ss_l, sr_f, sr_l, sr_same, sr_ne, sw_f, sw_l, sw_at, sw_ne, pk_us, pk_un, bI_t, bI_f, not_true_eq_false, not_false_eq_true, eq_self, and_true, true_and, and_false, false_and, or_true, true_or, or_false, false_or, decide_true, decide_false, Bool.false_eq_true, Bool.true_eq_false, ↓cal_w (wk), wk, ↓cal2_w (f1), f1, h20]
        · rw [f_X8_read_102]
          unfold f_X8_read_124
          simp (disch := omega) only [↓bnd_i, ↓cal_s, ↓cal_n, ↓cal2_s, ↓cal2_n, cal_s, cal2_s, ↓reduceIte, fa_lit, m1_lit, m2_lit, m1_lt, m2_lt, m1_eq, m2_eq, m1_le, m2_le, le_m1, le_m2, lt_m1, lt_m2, m12, m21, m1_m1, n_lt, n_le, n_eq, lt_t, lt_f, le_t, le_f, eq_t, eq_f, n_cl, inb_ok, n_add, pk_mul, pk_sub, n_rem, n_div, n_dec, n_mx, n_mn, eq_m1, eq_m2, ss_same, ss_ne, ss_r, ss_l, sr_f, sr_l, sr_same, sr_ne, sw_f, sw_l, sw_at, sw_ne, pk_us, pk_un, bI_t, bI_f, not_true_eq_false, not_false_eq_true, eq_self, and_true, true_and, and_false, false_and, or_true, true_or, or_false, false_or, decide_true, decide_false, Bool.false_eq_true, Bool.true_eq_false, ↓cal_w (i0), i0, ↓cal_w (fl), fl, g6, g12]
    · rw [decide_eq_false k29] at i0
      have d43 : f_X1_checkTells_6 F (n + 1 + 1) σ (nI (dp K)) (nI 1) (nI s) = f_X1_checkTells_43 F (f_X1_checkTells_6 F (n + 1)) σ (nI (dp K)) (nI s) (nI (kd (ps K))) := by
        rw [f_X1_checkTells_6]
        simp (disch := omega) only [↓bnd_i, ↓cal_s, ↓cal_n, ↓cal2_s, ↓cal2_n, cal_s, cal2_s, ↓reduceIte, fa_lit, m1_lit, m2_lit, m1_lt, m2_lt, m1_eq, m2_eq, m1_le, m2_le, le_m1, le_m2, lt_m1, lt_m2, m12, m21, m1_m1, n_lt, n_le, n_eq, lt_t, lt_f, le_t, le_f, eq_t, eq_f, n_cl, inb_ok, n_add, pk_mul, pk_sub, n_rem, n_div, n_dec, n_mx, n_mn, eq_m1, eq_m2, ss_same, ss_ne, ss_r, ss_l, sr_f, sr_l, sr_same, sr_ne, sw_f, sw_l, sw_at, sw_ne, pk_us, pk_un, bI_t, bI_f, not_true_eq_false, not_false_eq_true, eq_self, and_true, true_and, and_false, false_and, or_true, true_or, or_false, false_or, decide_true, decide_false, Bool.false_eq_true, Bool.true_eq_false, ↓cal_w (wk), wk, h20]
      have r102 : ∀ τ1, f_X8_tellOne F τ = some τ1 → ∀ x y, f_X8_read_102 F (m + 2) τ x y = f_X8_read_102 F (m + 1) τ1 x y := by
        intro τ1 h x y
        rw [f_X8_read_102]
        simp (disch := omega) only [↓bnd_i, ↓cal_s, ↓cal_n, ↓cal2_s, ↓cal2_n, cal_s, cal2_s, ↓reduceIte, fa_lit, m1_lit, m2_lit, m1_lt, m2_lt, m1_eq, m2_eq, m1_le, m2_le, le_m1, le_m2, lt_m1, lt_m2, m12, m21, m1_m1, n_lt, n_le, n_eq, lt_t, lt_f, le_t, le_f, eq_t, eq_f, n_cl, inb_ok, n_add, pk_mul, pk_sub, n_rem, n_div, n_dec, n_mx, n_mn, eq_m1, eq_m2, ss_same, ss_ne, ss_r, ss_l, sr_f, sr_l, sr_same, sr_ne, sw_f, sw_l, sw_at, sw_ne, pk_us, pk_un, bI_t, bI_f, not_true_eq_false, not_false_eq_true, eq_self, and_true, true_and, and_false, false_and, or_true, true_or, or_false, false_or, decide_true, decide_false, Bool.false_eq_true, Bool.true_eq_false, ↓cal_w (i0), i0, ↓cal_w (h), h, g6]
      -- a fault at its first word
      have fst : ∀ (x : Nat) (σ' : St) (d' : Nat), (1 ≤ x ∧ x ≤ 2) → f_X8_tellOne F τ = some (ss (ss τ 6 (nI x)) 7 (nI (pl (ps K)))) → f_X1_checkTells_43 F (f_X1_checkTells_6 F (n + 1)) σ (nI (dp K)) (nI s) (nI (kd (ps K))) = f_X1_checkTells_6 F (n + 1) (ss (ss σ 21 (nI x)) 22 (nI (pl (ps K)))) (nI d') (nI 0) (nI (s + 1)) → ∃ r σ' τ', f_X1_checkTells_6 F (n + 1 + 1) σ (nI (dp K)) (nI 1) (nI s) = some (r, σ') ∧ FrG σ σ' ∧ FmP τ τ' ∧ (∀ x y, f_X8_read_102 F (m + 2) τ x y = f_X8_read_143 F τ' x y) ∧ GrR F kd vl pl e ps dp σ r σ' τ' := by
        intro x _ d' hx ht hd
        have x6 : (ss (ss τ 6 (nI x)) 7 (nI (pl (ps K)))).1 6 = nI x := by rw [ss_ne (by omega), ss_same]
        exact fal x (ps K) _ _ d' hx dFl_mk (((FmP.refl τ).ss (by omega)).ss (by omega)) x6 ss_same (d43.trans hd) (fun p q => by rw [r102 _ ht p q]; exact t_102F x6 (by omega))
      -- a tell, gone through
      have thr : ∀ (σ1 : St) (d' : Nat) (ob' : List Nat), dp (K + 1) = d' → TellR F kd vl pl e ps dp K ob' τ → DO pl (tO F kd vl (ps K)) σ σ1 → (tO F kd vl (ps K)).1 ≤ 2 → f_X1_checkTells_43 F (f_X1_checkTells_6 F (n + 1)) σ (nI (dp K)) (nI s) (nI (kd (ps K))) = f_X1_checkTells_6 F (n + 1) σ1 (nI d') (bI (decide ((tO F kd vl (ps K)).1 = 0))) (nI (s + 1)) → ps K < (tO F kd vl (ps K)).2 ∨ (tO F kd vl (ps K)).1 ≠ 0 → ∃ r σ' τ', f_X1_checkTells_6 F (n + 1 + 1) σ (nI (dp K)) (nI 1) (nI s) = some (r, σ') ∧ FrG σ σ' ∧ FmP τ τ' ∧ (∀ x y, f_X8_read_102 F (m + 2) τ x y = f_X8_read_143 F τ' x y) ∧ GrR F kd vl pl e ps dp σ r σ' τ' := by
        intro σ1 d' ob' hd' hT hDO hle hd hlt
        obtain ⟨τ1, t1, t2, t3, t4⟩ := hT
        by_cases c : (tO F kd vl (ps K)).1 = 0
        · obtain ⟨c', G'⟩ := t4 c
          have es := hDO.1 c
          have hlt' : ps K < ps (K + 1) := by
            rw [hps K]
            rcases hlt with z | z
            · exact z
            · exact absurd c z
          rw [decide_eq_true c] at hd
          obtain ⟨r, σ', τ', q1, q2, q3, q4, q5⟩ := ih (m + 1) (K + 1) (s + 1) c' ob' σ1 τ1 (D.fr hDO.fr) (by rw [es, ss_same, hps K]) G' (by omega) (by omega) (by omega)
          refine ⟨r, σ', τ', ?_, hDO.fr.trans q2, t2.trans q3, fun x y => by rw [r102 τ1 t1 x y]; exact q4 x y, ?_⟩
          · rw [d43, hd, ← hd']; exact q1
          · rcases q5 with ⟨z1, x, k, z2, z3, z4, z5⟩ | ⟨z1, T, c2, z2, z3, z4, z5⟩
            · exact Or.inl ⟨z1, x, k, z2, ⟨z3.1, z3.2.1, hDO.fr.trans z3.2.2⟩, z4, z5⟩
            · refine Or.inr ⟨z1, T, c2, ?_, z3, z4, z5⟩
              rw [z2, es, ss_ss]
        · obtain ⟨y6, y7⟩ := t3 c
          rw [decide_eq_false c] at hd
          exact fal (tO F kd vl (ps K)).1 (tO F kd vl (ps K)).2 σ1 τ1 d' (by omega) (hDO.2 c) t2 y6 y7 (d43.trans hd) (fun p q => by rw [r102 τ1 t1 p q]; exact t_102F y6 (by omega))
      have ae : kd (ps K) ≤ 28 → ps K < e := fun h2 => by
        by_cases z : ps K = e
        · rw [z] at h2; rcases e3 with y | y <;> omega
        · omega
      by_cases k12 : kd (ps K) = 12
      · have hae := ae (by omega)
        by_cases d3 : dp K = 3
        · have f2 := d_fail (F := F) E D 2 a1
          refine fst 2 σ 4 (by omega) (t_tell1 (F := F) g6 g4 a2 g11 g12 o3 K0 2 (Or.inr (Or.inl ⟨rfl, k12, d3⟩))) ?_
          rw [k12, d3]
          unfold f_X1_checkTells_43 f_X1_checkTells_100 f_X1_checkTells_150
          simp (disch := omega) only [↓bnd_i, ↓cal_s, ↓cal_n, ↓cal2_s, ↓cal2_n, cal_s, cal2_s, ↓reduceIte, fa_lit, m1_lit, m2_lit, m1_lt, m2_lt, m1_eq, m2_eq, m1_le, m2_le, le_m1, le_m2, lt_m1, lt_m2, m12, m21, m1_m1, n_lt, n_le, n_eq, lt_t, lt_f, le_t, le_f, eq_t, eq_f, n_cl, inb_ok, n_add, pk_mul, pk_sub, n_rem, n_div, n_dec, n_mx, n_mn, eq_m1, eq_m2, ss_same, ss_ne, ss_r, ss_l, sr_f, sr_l, sr_same, sr_ne, sw_f, sw_l, sw_at, sw_ne, pk_us, pk_un, bI_t, bI_f, not_true_eq_false, not_false_eq_true, eq_self, and_true, true_and, and_false, false_and, or_true, true_or, or_false, false_or, decide_true, decide_false, Bool.false_eq_true, Bool.true_eq_false, ↓cal2_w (f2), f2, h20]
        · obtain ⟨σ1, q1, q2⟩ := d_doO (F := F) hF E D (d := dp K) (s := s) hae a2 h20 k12 (by omega) (f_X1_checkTells_6 F (n + 1))
          have hto : (tO F kd vl (ps K)).1 ≤ 2 ∧ (ps K < (tO F kd vl (ps K)).2 ∨ (tO F kd vl (ps K)).1 ≠ 0) := by
            rw [tO_12 k12]
            have ga := nxO_g hae a2
            by_cases c : (nxO (ps K)).1 = 0
            · rw [biO_0 c]
              obtain ⟨-, n2⟩ := nxO_1 c
              have gb := exO_g E (t := 20) (by omega) ga.2.1 ga.2.2
              by_cases c2 : (exO kd 20 (nxO (ps K)).2).1 = 0
              · rw [biO_0 c2]
                obtain ⟨-, -, x2⟩ := exO_1 c2
                have gc' := exO_g E (t := 21) (by omega) gb.2.1 gb.2.2
                refine ⟨gc'.1, ?_⟩
                by_cases c3 : (exO kd 21 (exO kd 20 (nxO (ps K)).2).2).1 = 0
                · obtain ⟨-, -, x3⟩ := exO_1 c3
                  exact Or.inl (by omega)
                · exact Or.inr c3
              · rw [biO_n c2]; exact ⟨gb.1, Or.inr c2⟩
            · rw [biO_n c]; exact ⟨ga.1, Or.inr c⟩
          exact thr σ1 (dp K + 1) (K :: ob) (by rw [hdp K, if_pos k12]) (t_doM hF E hps hdp G0 k12 (by omega)) q2 hto.1 (by rw [k12]; exact q1) hto.2
      · by_cases k13 : kd (ps K) = 13
        · have hae := ae (by omega)
          by_cases d0 : dp K = 0
          · have f1 := d_fail (F := F) E D 1 a1
            refine fst 1 σ 0 (by omega) (t_tell1 (F := F) g6 g4 a2 g11 g12 o3 K0 1 (Or.inr (Or.inr ⟨rfl, k13, d0⟩))) ?_
            rw [k13, d0]
            unfold f_X1_checkTells_43 f_X1_checkTells_143 f_X1_checkTells_150 f_X1_checkTell
            simp (disch := omega) only [↓bnd_i, ↓cal_s, ↓cal_n, ↓cal2_s, ↓cal2_n, cal_s, cal2_s, ↓reduceIte, fa_lit, m1_lit, m2_lit, m1_lt, m2_lt, m1_eq, m2_eq, m1_le, m2_le, le_m1, le_m2, lt_m1, lt_m2, m12, m21, m1_m1, n_lt, n_le, n_eq, lt_t, lt_f, le_t, le_f, eq_t, eq_f, n_cl, inb_ok, n_add, pk_mul, pk_sub, n_rem, n_div, n_dec, n_mx, n_mn, eq_m1, eq_m2, ss_same, ss_ne, ss_r, ss_l, sr_f, sr_l, sr_same, sr_ne, sw_f, sw_l, sw_at, sw_ne, pk_us, pk_un, bI_t, bI_f, not_true_eq_false, not_false_eq_true, eq_self, and_true, true_and, and_false, false_and, or_true, true_or, or_false, false_or, decide_true, decide_false, Bool.false_eq_true, Bool.true_eq_false, ↓cal2_w (f1), f1, h20]
          · obtain ⟨σ1, q1, q2⟩ := d_endO (F := F) hF E D (d := dp K) (s := s) hae a2 h20 k13 (by omega) o3 (f_X1_checkTells_6 F (n + 1))
            have hto : (tO F kd vl (ps K)).1 ≤ 2 ∧ (ps K < (tO F kd vl (ps K)).2 ∨ (tO F kd vl (ps K)).1 ≠ 0) := by
              rw [tO_13 k13]
              have ga := nxO_g hae a2
              by_cases c : (nxO (ps K)).1 = 0
              · rw [biO_0 c]
                obtain ⟨-, n2⟩ := nxO_1 c
                have gb := exO_g E (t := 21) (by omega) ga.2.1 ga.2.2
                refine ⟨gb.1, ?_⟩
                by_cases c2 : (exO kd 21 (nxO (ps K)).2).1 = 0
                · obtain ⟨-, -, x2⟩ := exO_1 c2
                  exact Or.inl (by omega)
                · exact Or.inr c2
              · rw [biO_n c]; exact ⟨ga.1, Or.inr c⟩
            exact thr σ1 (dp K - 1) ob.tail (by rw [hdp K, if_neg k12, if_pos k13]) (t_endM hF E hps hdp G0 k13 (by omega)) q2 hto.1 (by rw [k13]; exact q1) hto.2
        · have d143 : ∀ (σ1 : St) (b : Bool), f_X1_checkTell F σ (nI (kd (ps K))) = some (bI b, σ1) → f_X1_checkTells_43 F (f_X1_checkTells_6 F (n + 1)) σ (nI (dp K)) (nI s) (nI (kd (ps K))) = f_X1_checkTells_6 F (n + 1) σ1 (nI (dp K)) (bI b) (nI (s + 1)) := by
            intro σ1 b h
            unfold f_X1_checkTells_43 f_X1_checkTells_143 f_X1_checkTells_150
            simp (disch := omega) only [↓bnd_i, ↓cal_s, ↓cal_n, ↓cal2_s, ↓cal2_n, cal_s, cal2_s, ↓reduceIte, fa_lit, m1_lit, m2_lit, m1_lt, m2_lt, m1_eq, m2_eq, m1_le, m2_le, le_m1, le_m2, lt_m1, lt_m2, m12, m21, m1_m1, n_lt, n_le, n_eq, lt_t, lt_f, le_t, le_f, eq_t, eq_f, n_cl, inb_ok, n_add, pk_mul, pk_sub, n_rem, n_div, n_dec, n_mx, n_mn, eq_m1, eq_m2, ss_same, ss_ne, ss_r, ss_l, sr_f, sr_l, sr_same, sr_ne, sw_f, sw_l, sw_at, sw_ne, pk_us, pk_un, bI_t, bI_f, not_true_eq_false, not_false_eq_true, eq_self, and_true, true_and, and_false, false_and, or_true, true_or, or_false, false_or, decide_true, decide_false, Bool.false_eq_true, Bool.true_eq_false, ↓cal2_w (h), h]
          obtain ⟨σ1, q1, q2⟩ := d_tellO (F := F) hF E D a1 a2 h20 k12 k13
          by_cases kt : 2 ≤ kd (ps K) ∧ kd (ps K) ≤ 11
          · have hae := ae (by omega)
            have hag := ag_le (kd (ps K) - 2) (by omega)
            have hto : (tO F kd vl (ps K)).1 ≤ 2 ∧ (ps K < (tO F kd vl (ps K)).2 ∨ (tO F kd vl (ps K)).1 ≠ 0) := by
              rw [tO_t kt]
              have ga := nxO_g hae a2
              by_cases c : (nxO (ps K)).1 = 0
              · rw [biO_0 c]
                obtain ⟨-, n2⟩ := nxO_1 c
                obtain ⟨gb, gb2⟩ := exsO_P (F := F) hF E (agN (kd (ps K) - 2)) (nxO (ps K)).2 ga.2.1 ga.2.2
                by_cases c2 : (exsO F kd vl (agN (kd (ps K) - 2)) (nxO (ps K)).2).1 = 0
                · rw [biO_0 c2]
                  have gc' := exO_g E (t := 21) (by omega) gb.2.1 gb.2.2
                  refine ⟨gc'.1, ?_⟩
                  by_cases c3 : (exO kd 21 (exsO F kd vl (agN (kd (ps K) - 2)) (nxO (ps K)).2).2).1 = 0
                  · obtain ⟨-, -, x3⟩ := exO_1 c3
                    have := (gb2 c2).1
                    exact Or.inl (by omega)
                  · exact Or.inr c3
                · rw [biO_n c2]; exact ⟨gb.1, Or.inr c2⟩
              · rw [biO_n c]; exact ⟨ga.1, Or.inr c⟩
            exact thr σ1 (dp K) ob (by rw [hdp K, if_neg k12, if_neg k13]) (t_tellM hF E hps hdp G0 kt) q2 hto.1 (d143 σ1 _ q1) hto.2
          · have ht : tO F kd vl (ps K) = (1, ps K) := by unfold tO; rw [if_neg k12, if_neg k13, if_neg kt]
            rw [ht] at q1 q2
            have x6 := t_tell1 (F := F) g6 g4 a2 g11 g12 o3 K0 1 (Or.inl ⟨rfl, by omega⟩)
            have y6 : (ss (ss τ 6 (nI 1)) 7 (nI (pl (ps K)))).1 6 = nI 1 := by rw [ss_ne (by omega), ss_same]
            exact fal 1 (ps K) σ1 _ (dp K) (by omega) (q2.2 (show (1 : Nat) ≠ 0 by omega)) (((FmP.refl τ).ss (by omega)).ss (by omega)) y6 ss_same (d43.trans (d143 σ1 false q1)) (fun p q => by rw [r102 _ x6 p q]; exact t_102F y6 (by omega))
end
