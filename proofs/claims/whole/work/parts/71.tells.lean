/-! PURE: the tells, one by one -/
def agN (s : Nat) : Nat := ([2, 2, 1, 0, 0, 1, 2, 1, 3, 2] : List Nat).getD s 0
theorem ag_le : ∀ s, s < 10 → agN s ≤ 3 := by decide +kernel
theorem ag_T : ∀ s, s < 10 → argT s = nI (agN s) := by decide +kernel
def exE (F : Nat) (kd vl : Nat → Nat) (b : Nat) : Nat × Nat := ((exM kd vl F b 0 false [] []).1, (exM kd vl F b 0 false [] []).2.1)
def exsO (F : Nat) (kd vl : Nat → Nat) : Nat → Nat → Nat × Nat
  | 0, b => (0, b)
  | n + 1, b => biO (exE F kd vl b) (fun b' => exsO F kd vl n b')
/-- how a tell comes out -/
def tO (F : Nat) (kd vl : Nat → Nat) (a : Nat) : Nat × Nat :=
  if kd a = 12 then biO (nxO a) (fun b => biO (exO kd 20 b) (exO kd 21))
  else if kd a = 13 then biO (nxO a) (exO kd 21)
  else if 2 ≤ kd a ∧ kd a ≤ 11 then biO (nxO a) (fun b => biO (exsO F kd vl (agN (kd a - 2)) b) (exO kd 21))
  else (1, a)
/-- the expressions of a tell begin here -/
def qF (F : Nat) (kd vl : Nat → Nat) (a : Nat) : Nat → Nat
  | 0 => a + 1
  | i + 1 => (exE F kd vl (qF F kd vl a i)).2
section
variable {F : Nat} {kd vl pl : Nat → Nat} {e : Nat}
theorem exE_P (hF : 1000 < F) (E : TkE kd vl pl e) {b : Nat} (h1 : b ≤ e) (h2 : b ≤ 400) : gO e (exE F kd vl b) ∧ ((exE F kd vl b).1 = 0 → b < (exE F kd vl b).2 ∧ ∀ j, b ≤ j → j < (exE F kd vl b).2 → 14 ≤ kd j) := by
  obtain ⟨x1, x2, x3, x4, x5⟩ := exM_P E F b 0 false [] [] h1 h2 (by omega)
  exact ⟨⟨x1, x3, x4⟩, fun q => ⟨(x5 q).1 rfl, fun j h1 h2 => ((x5 q).2 j h1 h2).1⟩⟩
theorem exsO_P (hF : 1000 < F) (E : TkE kd vl pl e) : ∀ n b, b ≤ e → b ≤ 400 → gO e (exsO F kd vl n b) ∧ ((exsO F kd vl n b).1 = 0 → b ≤ (exsO F kd vl n b).2 ∧ ∀ j, b ≤ j → j < (exsO F kd vl n b).2 → 14 ≤ kd j)
  | 0, b, h1, h2 => ⟨⟨Nat.zero_le _, h1, h2⟩, fun _ => ⟨Nat.le_refl _, fun j x1 x2 => by have x2 : j < b := x2; omega⟩⟩
  | n + 1, b, h1, h2 => by
    obtain ⟨g, k⟩ := exE_P hF E h1 h2
    rw [exsO]
    by_cases c : (exE F kd vl b).1 = 0
    · rw [biO_0 c]
      obtain ⟨k1, k2⟩ := k c
      obtain ⟨i1, i2⟩ := exsO_P hF E n _ g.2.1 g.2.2
      refine ⟨i1, fun q => ⟨by have := (i2 q).1; omega, fun j x1 x2 => ?_⟩⟩
      by_cases z : j < (exE F kd vl b).2
      · exact k2 j x1 z
      · exact (i2 q).2 j (by omega) x2
    · rw [biO_n c]
      exact ⟨g, fun q => absurd q c⟩
theorem d_exE (hF : 1000 < F) (E : TkE kd vl pl e) {σ : St} (D : TkD kd vl pl e σ) {b : Nat} (h1 : b ≤ e) (h2 : b ≤ 400) (h20 : σ.1 20 = nI b) : ∃ σ', f_X1_checkExpression F σ = some (bI (decide ((exE F kd vl b).1 = 0)), σ') ∧ DO pl (exE F kd vl b) σ σ' := by
  obtain ⟨σ', g1, g2, g3⟩ := d_cEx (F := F) E F b 0 false 0 [] [] σ D h20 h1 h2 (by omega) (by omega) (by omega)
  exact ⟨σ', g1, g2, g3⟩
/-- the desk's expressions, and what ends the tell -/
theorem d_exprs (hF : 1000 < F) (E : TkE kd vl pl e) {s : Nat} (hs : s < 10) : ∀ (n i b : Nat) (σ : St), TkD kd vl pl e σ → i ≤ agN s → agN s - i < n → b ≤ e → b ≤ 400 → σ.1 20 = nI b → ∃ σ', f_X1_checkTell_34 F n σ (nI s) (nI 1) (nI i) = some (bI (decide ((biO (exsO F kd vl (agN s - i) b) (exO kd 21)).1 = 0)), σ') ∧ DO pl (biO (exsO F kd vl (agN s - i) b) (exO kd 21)) σ σ' := by
  have hag := ag_le s hs
  have hT := ag_T s hs
  intro n
  induction n with
  | zero => intro i b σ _ _ h; omega
  | succ n ih =>
    intro i b σ D hi hn h1 h2 h20
    rw [f_X1_checkTell_34]
    by_cases c : i = agN s
    · rw [show agN s - i = 0 by omega, exsO, biO_0 rfl]
      obtain ⟨σ', g1, g2⟩ := d_expO (F := F) E D h1 h20 (t := 21) (by omega)
      refine ⟨σ', ?_, g2⟩
      show _ = some (bI (decide ((exO kd 21 b).1 = 0)), σ')
      cases d : decide ((exO kd 21 b).1 = 0)
      · rw [d] at g1
        simp (disch := omega) only [↓bnd_i, ↓cal_s, ↓cal_n, ↓cal2_s, ↓cal2_n, cal_s, cal2_s, ↓reduceIte, fa_lit, m1_lit, m2_lit, m1_lt, m2_lt, m1_eq, m2_eq, m1_le, m2_le, le_m1, le_m2, lt_m1, lt_m2, m12, m21, m1_m1, n_lt, n_le, n_eq, lt_t, lt_f, le_t, le_f, eq_t, eq_f, n_cl, inb_ok, n_add, pk_mul, pk_sub, n_rem, n_div, n_dec, n_mx, n_mn, eq_m1, eq_m2, ss_same, ss_ne, ss_r, ss_l, sr_f, sr_l, sr_same, sr_ne, sw_f, sw_l, sw_at, sw_ne, pk_us, pk_un, bI_t, bI_f, not_true_eq_false, not_false_eq_true, eq_self, and_true, true_and, and_false, false_and, or_true, true_or, or_false, false_or, decide_true, decide_false, Bool.false_eq_true, Bool.true_eq_false, ↓cal2_w (show f_X1_expect F σ (nI 21) = some (nI 0, σ') from g1), show f_X1_expect F σ (nI 21) = some (nI 0, σ') from g1, hT, f_X1_checkTell_59]
      · rw [d] at g1
        simp (disch := omega) only [↓bnd_i, ↓cal_s, ↓cal_n, ↓cal2_s, ↓cal2_n, cal_s, cal2_s, ↓reduceIte, fa_lit, m1_lit, m2_lit, m1_lt, m2_lt, m1_eq, m2_eq, m1_le, m2_le, le_m1, le_m2, lt_m1, lt_m2, m12, m21, m1_m1, n_lt, n_le, n_eq, lt_t, lt_f, le_t, le_f, eq_t, eq_f, n_cl, inb_ok, n_add, pk_mul, pk_sub, n_rem, n_div, n_dec, n_mx, n_mn, eq_m1, eq_m2, ss_same, ss_ne, ss_r, ss_l, sr_f, sr_l, sr_same, sr_ne, sw_f, sw_l, sw_at, sw_ne, pk_us, pk_un, bI_t, bI_f, not_true_eq_false, not_false_eq_true, eq_self, and_true, true_and, and_false, false_and, or_true, true_or, or_false, false_or, decide_true, decide_false, Bool.false_eq_true, Bool.true_eq_false, ↓cal2_w (show f_X1_expect F σ (nI 21) = some (nI 1, σ') from g1), show f_X1_expect F σ (nI 21) = some (nI 1, σ') from g1, hT, f_X1_checkTell_59]
    · obtain ⟨m, hm⟩ : ∃ m, agN s - i = m + 1 := ⟨agN s - i - 1, by omega⟩
      obtain ⟨σ1, g1, g2⟩ := d_exE (F := F) hF E D h1 h2 h20
      obtain ⟨gg, -⟩ := exE_P (F := F) hF E h1 h2
      rw [hm, exsO]
      cases d : decide ((exE F kd vl b).1 = 0)
      · have d' := of_decide_eq_false d
        rw [d] at g1
        rw [biO_n d', biO_n d']
        refine ⟨σ1, ?_, g2⟩
        rw [d]
        obtain ⟨n, rfl⟩ : ∃ k, n = k + 1 := ⟨n - 1, by omega⟩
        have nx : f_X1_checkTell_34 F (n + 1) σ1 (nI s) (nI 0) (nI (i + 1)) = some (nI 0, σ1) := by
          rw [f_X1_checkTell_34]
          by_cases c2 : agN s ≤ i + 1
          · simp (disch := omega) only [↓bnd_i, ↓cal_s, ↓cal_n, ↓cal2_s, ↓cal2_n, cal_s, cal2_s, ↓reduceIte, fa_lit, m1_lit, m2_lit, m1_lt, m2_lt, m1_eq, m2_eq, m1_le, m2_le, le_m1, le_m2, lt_m1, lt_m2, m12, m21, m1_m1, n_lt, n_le, n_eq, lt_t, lt_f, le_t, le_f, eq_t, eq_f, n_cl, inb_ok, n_add, pk_mul, pk_sub, n_rem, n_div, n_dec, n_mx, n_mn, eq_m1, eq_m2, ss_same, ss_ne, ss_r, ss_l, sr_f, sr_l, sr_same, sr_ne, sw_f, sw_l, sw_at, sw_ne, pk_us, pk_un, bI_t, bI_f, not_true_eq_false, not_false_eq_true, eq_self, and_true, true_and, and_false, false_and, or_true, true_or, or_false, false_or, decide_true, decide_false, Bool.false_eq_true, Bool.true_eq_false, hT, f_X1_checkTell_59]
          · simp (disch := omega) only [↓bnd_i, ↓cal_s, ↓cal_n, ↓cal2_s, ↓cal2_n, cal_s, cal2_s, ↓reduceIte, fa_lit, m1_lit, m2_lit, m1_lt, m2_lt, m1_eq, m2_eq, m1_le, m2_le, le_m1, le_m2, lt_m1, lt_m2, m12, m21, m1_m1, n_lt, n_le, n_eq, lt_t, lt_f, le_t, le_f, eq_t, eq_f, n_cl, inb_ok, n_add, pk_mul, pk_sub, n_rem, n_div, n_dec, n_mx, n_mn, eq_m1, eq_m2, ss_same, ss_ne, ss_r, ss_l, sr_f, sr_l, sr_same, sr_ne, sw_f, sw_l, sw_at, sw_ne, pk_us, pk_un, bI_t, bI_f, not_true_eq_false, not_false_eq_true, eq_self, and_true, true_and, and_false, false_and, or_true, true_or, or_false, false_or, decide_true, decide_false, Bool.false_eq_true, Bool.true_eq_false, hT, f_X1_checkTell_59]
        simp (disch := omega) only [↓bnd_i, ↓cal_s, ↓cal_n, ↓cal2_s, ↓cal2_n, cal_s, cal2_s, ↓reduceIte, fa_lit, m1_lit, m2_lit, m1_lt, m2_lt, m1_eq, m2_eq, m1_le, m2_le, le_m1, le_m2, lt_m1, lt_m2, m12, m21, m1_m1, n_lt, n_le, n_eq, lt_t, lt_f, le_t, le_f, eq_t, eq_f, n_cl, inb_ok, n_add, pk_mul, pk_sub, n_rem, n_div, n_dec, n_mx, n_mn, eq_m1, eq_m2, ss_same, ss_ne, ss_r, ss_l, sr_f, sr_l, sr_same, sr_ne, sw_f, sw_l, sw_at, sw_ne, pk_us, pk_un, bI_t, bI_f, not_true_eq_false, not_false_eq_true, eq_self, and_true, true_and, and_false, false_and, or_true, true_or, or_false, false_or, decide_true, decide_false, Bool.false_eq_true, Bool.true_eq_false, ↓cal2_w (show f_X1_checkExpression F σ = some (nI 0, σ1) from g1), show f_X1_checkExpression F σ = some (nI 0, σ1) from g1, hT]
        exact nx
      · have d' := of_decide_eq_true d
        rw [d] at g1
        rw [biO_0 d']
        have es := g2.1 d'
        obtain ⟨σ', q1, q2⟩ := ih (i + 1) (exE F kd vl b).2 σ1 (D.fr g2.fr) (by omega) (by omega) gg.2.1 gg.2.2 (by rw [es, ss_same])
        rw [show agN s - (i + 1) = m by omega] at q1 q2
        refine ⟨σ', ?_, ?_⟩
        · simp (disch := omega) only [↓bnd_i, ↓cal_s, ↓cal_n, ↓cal2_s, ↓cal2_n, cal_s, cal2_s, ↓reduceIte, fa_lit, m1_lit, m2_lit, m1_lt, m2_lt, m1_eq, m2_eq, m1_le, m2_le, le_m1, le_m2, lt_m1, lt_m2, m12, m21, m1_m1, n_lt, n_le, n_eq, lt_t, lt_f, le_t, le_f, eq_t, eq_f, n_cl, inb_ok, n_add, pk_mul, pk_sub, n_rem, n_div, n_dec, n_mx, n_mn, eq_m1, eq_m2, ss_same, ss_ne, ss_r, ss_l, sr_f, sr_l, sr_same, sr_ne, sw_f, sw_l, sw_at, sw_ne, pk_us, pk_un, bI_t, bI_f, not_true_eq_false, not_false_eq_true, eq_self, and_true, true_and, and_false, false_and, or_true, true_or, or_false, false_or, decide_true, decide_false, Bool.false_eq_true, Bool.true_eq_false, ↓cal2_w (show f_X1_checkExpression F σ = some (nI 1, σ1) from g1), show f_X1_checkExpression F σ = some (nI 1, σ1) from g1, hT]
          exact q1
        · subst es
          refine ⟨fun z => by rw [q2.1 z, ss_ss], fun z => ?_⟩
          obtain ⟨x1, x2, x3⟩ := q2.2 z
          exact ⟨x1, x2, ((FrG.refl σ).ss (by omega) (by omega)).trans x3⟩
/-- the desk's tell -/
theorem d_tellO (hF : 1000 < F) (E : TkE kd vl pl e) {σ : St} (D : TkD kd vl pl e σ) {a : Nat} (h1 : a ≤ e) (h2 : a ≤ 400) (h20 : σ.1 20 = nI a) (nd : kd a ≠ 12) (ne : kd a ≠ 13) : ∃ σ', f_X1_checkTell F σ (nI (kd a)) = some (bI (decide ((tO F kd vl a).1 = 0)), σ') ∧ DO pl (tO F kd vl a) σ σ' := by
  have E' := E
  obtain ⟨e1, e2, e3, e4, e5, e6⟩ := E'
  have kle : kd a ≤ 30 := by
    by_cases q : a = e
    · rw [q]; rcases e3 with z | z <;> omega
    · have := e2 a (by omega); omega
  have f1 := d_fail (F := F) E D 1 h1
  have no : ∀ c : Cd, f_X1_checkTell F σ (nI (kd a)) = some (nI 0, ss (ss σ 21 (nI 1)) 22 (nI (pl a))) → ¬ (2 ≤ kd a ∧ kd a ≤ 11) → ∃ σ', f_X1_checkTell F σ (nI (kd a)) = some (bI (decide ((tO F kd vl a).1 = 0)), σ') ∧ DO pl (tO F kd vl a) σ σ' := by
    intro _ h hk
    have : tO F kd vl a = (1, a) := by unfold tO; rw [if_neg nd, if_neg ne, if_neg hk]
    rw [this]
    exact ⟨_, h, fun q => (by cases q), fun _ => dFl_mk⟩
  by_cases k2 : kd a < 2
  · refine no [] ?_ (by omega)
    have : nI (kd a) - nI 2 < nI 0 := by
      rw [Int32.lt_iff_toInt_lt, pk_sub_toInt (by omega) (by omega), nI_toInt (by omega)]
      omega
    unfold f_X1_checkTell
    simp (disch := omega) only [↓bnd_i, ↓cal_s, ↓cal_n, ↓cal2_s, ↓cal2_n, cal_s, cal2_s, ↓reduceIte, fa_lit, m1_lit, m2_lit, m1_lt, m2_lt, m1_eq, m2_eq, m1_le, m2_le, le_m1, le_m2, lt_m1, lt_m2, m12, m21, m1_m1, n_lt, n_le, n_eq, lt_t, lt_f, le_t, le_f, eq_t, eq_f, n_cl, inb_ok, n_add, pk_mul, pk_sub, n_rem, n_div, n_dec, n_mx, n_mn, eq_m1, eq_m2, ss_same, ss_ne, ss_r, ss_l, sr_f, sr_l, sr_same, sr_ne, sw_f, sw_l, sw_at, sw_ne, pk_us, pk_un, bI_t, bI_f, not_true_eq_false, not_false_eq_true, eq_self, and_true, true_and, and_false, false_and, or_true, true_or, or_false, false_or, decide_true, decide_false, Bool.false_eq_true, Bool.true_eq_false, ↓cal2_w (f1), f1, h20, eq_true this]
  · by_cases k11 : 11 < kd a
    · refine no [] ?_ (by omega)
      unfold f_X1_checkTell
      simp (disch := omega) only [↓bnd_i, ↓cal_s, ↓cal_n, ↓cal2_s, ↓cal2_n, cal_s, cal2_s, ↓reduceIte, fa_lit, m1_lit, m2_lit, m1_lt, m2_lt, m1_eq, m2_eq, m1_le, m2_le, le_m1, le_m2, lt_m1, lt_m2, m12, m21, m1_m1, n_lt, n_le, n_eq, lt_t, lt_f, le_t, le_f, eq_t, eq_f, n_cl, inb_ok, n_add, pk_mul, pk_sub, n_rem, n_div, n_dec, n_mx, n_mn, eq_m1, eq_m2, ss_same, ss_ne, ss_r, ss_l, sr_f, sr_l, sr_same, sr_ne, sw_f, sw_l, sw_at, sw_ne, pk_us, pk_un, bI_t, bI_f, not_true_eq_false, not_false_eq_true, eq_self, and_true, true_and, and_false, false_and, or_true, true_or, or_false, false_or, decide_true, decide_false, Bool.false_eq_true, Bool.true_eq_false, ↓cal2_w (f1), f1, h20]
    · have hto : tO F kd vl a = biO (nxO a) (fun b => biO (exsO F kd vl (agN (kd a - 2)) b) (exO kd 21)) := by unfold tO; rw [if_neg nd, if_neg ne, if_pos (by omega)]
      have hae : a < e := by
        by_cases z : a = e
        · rw [z] at k11; rcases e3 with y | y <;> omega
        · omega
      obtain ⟨σ1, g1, g2⟩ := d_goO (F := F) E D h1 h20
      rw [hto]
      unfold f_X1_checkTell
      have hag := ag_le (kd a - 2) (by omega)
      cases d : decide ((nxO a).1 = 0)
      · have d' := of_decide_eq_false d
        rw [d] at g1
        rw [biO_n d', d]
        refine ⟨σ1, ?_, g2⟩
        obtain ⟨n, hn⟩ : ∃ k, F = k + 1 := ⟨F - 1, by omega⟩
        have nx : f_X1_checkTell_34 F F σ1 (nI (kd a - 2)) (nI 0) (nI 0) = some (nI 0, σ1) := by
          have hT := ag_T (kd a - 2) (by omega)
          have : f_X1_checkTell_34 F (n + 1) σ1 (nI (kd a - 2)) (nI 0) (nI 0) = some (nI 0, σ1) := by
            rw [f_X1_checkTell_34]
            by_cases c2 : agN (kd a - 2) ≤ 0
            · simp (disch := omega) only [↓bnd_i, ↓cal_s, ↓cal_n, ↓cal2_s, ↓cal2_n, cal_s, cal2_s, ↓reduceIte, fa_lit, m1_lit, m2_lit, m1_lt, m2_lt, m1_eq, m2_eq, m1_le, m2_le, le_m1, le_m2, lt_m1, lt_m2, m12, m21, m1_m1, n_lt, n_le, n_eq, lt_t, lt_f, le_t, le_f, eq_t, eq_f, n_cl, inb_ok, n_add, pk_mul, pk_sub, n_rem, n_div, n_dec, n_mx, n_mn, eq_m1, eq_m2, ss_same, ss_ne, ss_r, ss_l, sr_f, sr_l, sr_same, sr_ne, sw_f, sw_l, sw_at, sw_ne, pk_us, pk_un, bI_t, bI_f, not_true_eq_false, not_false_eq_true, eq_self, and_true, true_and, and_false, false_and, or_true, true_or, or_false, false_or, decide_true, decide_false, Bool.false_eq_true, Bool.true_eq_false, hT, f_X1_checkTell_59]
            · simp (disch := omega) only [↓bnd_i, ↓cal_s, ↓cal_n, ↓cal2_s, ↓cal2_n, cal_s, cal2_s, ↓reduceIte, fa_lit, m1_lit, m2_lit, m1_lt, m2_lt, m1_eq, m2_eq, m1_le, m2_le, le_m1, le_m2, lt_m1, lt_m2, m12, m21, m1_m1, n_lt, n_le, n_eq, lt_t, lt_f, le_t, le_f, eq_t, eq_f, n_cl, inb_ok, n_add, pk_mul, pk_sub, n_rem, n_div, n_dec, n_mx, n_mn, eq_m1, eq_m2, ss_same, ss_ne, ss_r, ss_l, sr_f, sr_l, sr_same, sr_ne, sw_f, sw_l, sw_at, sw_ne, pk_us, pk_un, bI_t, bI_f, not_true_eq_false, not_false_eq_true, eq_self, and_true, true_and, and_false, false_and, or_true, true_or, or_false, false_or, decide_true, decide_false, Bool.false_eq_true, Bool.true_eq_false, hT, f_X1_checkTell_59]
          rw [← hn] at this
          exact this
        simp (disch := omega) only [↓bnd_i, ↓cal_s, ↓cal_n, ↓cal2_s, ↓cal2_n, cal_s, cal2_s, ↓reduceIte, fa_lit, m1_lit, m2_lit, m1_lt, m2_lt, m1_eq, m2_eq, m1_le, m2_le, le_m1, le_m2, lt_m1, lt_m2, m12, m21, m1_m1, n_lt, n_le, n_eq, lt_t, lt_f, le_t, le_f, eq_t, eq_f, n_cl, inb_ok, n_add, pk_mul, pk_sub, n_rem, n_div, n_dec, n_mx, n_mn, eq_m1, eq_m2, ss_same, ss_ne, ss_r, ss_l, sr_f, sr_l, sr_same, sr_ne, sw_f, sw_l, sw_at, sw_ne, pk_us, pk_un, bI_t, bI_f, not_true_eq_false, not_false_eq_true, eq_self, and_true, true_and, and_false, false_and, or_true, true_or, or_false, false_or, decide_true, decide_false, Bool.false_eq_true, Bool.true_eq_false, ↓cal2_w (show f_X1_goOver F σ = some (nI 0, σ1) from g1), show f_X1_goOver F σ = some (nI 0, σ1) from g1]
        exact nx
      · have d' := of_decide_eq_true d
        rw [d] at g1
        have es := g2.1 d'
        have hg := nxO_g hae h2
        obtain ⟨σ', q1, q2⟩ := d_exprs (F := F) hF E (s := kd a - 2) (by omega) F 0 (nxO a).2 σ1 (D.fr g2.fr) (by omega) (by omega) hg.2.1 hg.2.2 (by rw [es, ss_same])
        rw [Nat.sub_zero] at q1 q2
        have bb := DO.bi (f := fun b => biO (exsO F kd vl (agN (kd a - 2)) b) (exO kd 21)) g2 d' q2
        refine ⟨σ', ?_, bb⟩
        rw [biO_0 d']
        simp (disch := omega) only [↓bnd_i, ↓cal_s, ↓cal_n, ↓cal2_s, ↓cal2_n, cal_s, cal2_s, ↓reduceIte, fa_lit, m1_lit, m2_lit, m1_lt, m2_lt, m1_eq, m2_eq, m1_le, m2_le, le_m1, le_m2, lt_m1, lt_m2, m12, m21, m1_m1, n_lt, n_le, n_eq, lt_t, lt_f, le_t, le_f, eq_t, eq_f, n_cl, inb_ok, n_add, pk_mul, pk_sub, n_rem, n_div, n_dec, n_mx, n_mn, eq_m1, eq_m2, ss_same, ss_ne, ss_r, ss_l, sr_f, sr_l, sr_same, sr_ne, sw_f, sw_l, sw_at, sw_ne, pk_us, pk_un, bI_t, bI_f, not_true_eq_false, not_false_eq_true, eq_self, and_true, true_and, and_false, false_and, or_true, true_or, or_false, false_or, decide_true, decide_false, Bool.false_eq_true, Bool.true_eq_false, ↓cal2_w (show f_X1_goOver F σ = some (nI 1, σ1) from g1), show f_X1_goOver F σ = some (nI 1, σ1) from g1]
        exact q1
end
