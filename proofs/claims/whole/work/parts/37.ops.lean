/-! PURE: the first doings -/
theorem JJ_same {σ σ' : St} {N : Nat → Int32} (j : JJ σ N) (hf : ∀ k, 4 ≤ k → k ≤ 10 → σ'.1 k = σ.1 k) (hr : ∀ r, 11 ≤ r → r ≤ 24 → σ'.2.1 r = σ.2.1 r) : JJ σ' N := by
  unfold JJ JL JR JX at *
  rw [hf 4 (by omega) (by omega), hf 5 (by omega) (by omega), hf 6 (by omega) (by omega), hf 7 (by omega) (by omega), hf 8 (by omega) (by omega), hf 9 (by omega) (by omega), hf 10 (by omega) (by omega), hr 11 (by omega) (by omega), hr 12 (by omega) (by omega), hr 13 (by omega) (by omega), hr 14 (by omega) (by omega), hr 15 (by omega) (by omega), hr 16 (by omega) (by omega), hr 17 (by omega) (by omega), hr 18 (by omega) (by omega), hr 19 (by omega) (by omega), hr 20 (by omega) (by omega), hr 21 (by omega) (by omega), hr 22 (by omega) (by omega), hr 23 (by omega) (by omega), hr 24 (by omega) (by omega)]
  exact j
def Core (σ τ : St) : Prop := NN (nw τ) ∧ JJ σ (nw τ)
def Op (σ τ : St) (x y : Option (Int32 × St)) : Prop := ∃ r σ' τ', x = some (r, σ') ∧ y = some (r, τ') ∧ Core σ' τ' ∧ Fr σ σ' ∧ FrM τ τ' ∧ nw τ' 6 = nw τ 6
theorem Op.same {σ τ : St} (C : Core σ τ) (r : Int32) : Op σ τ (some (r, σ)) (some (r, τ)) := ⟨r, σ, τ, rfl, rfl, C, Fr.refl σ, FrM.refl τ, rfl⟩
theorem Op.then {σ τ σ1 τ1 : St} {x y : Option (Int32 × St)} (h1 : Fr σ σ1) (h2 : FrM τ τ1) (h3 : nw τ1 6 = nw τ 6) (h : Op σ1 τ1 x y) : Op σ τ x y := by
  obtain ⟨r, σ', τ', e1, e2, C, f1, f2, e3⟩ := h
  exact ⟨r, σ', τ', e1, e2, C, h1.trans f1, h2.trans f2, e3.trans h3⟩
theorem d_hasPage {F : Nat} {σ : St} {N : Nat → Int32} (h : NN N) (j : JJ σ N) (x : Int32) : f_X5_hasPage F σ x = some (bI (isN x (pg N))) := by
  obtain ⟨b1, b2, b3, b4, b5, b6, b7, b8⟩ := NNb h
  obtain ⟨e4, e5, e6, e7, e8⟩ := JJf h j
  unfold f_X5_hasPage
  rcases n_ex x with hx | ⟨k, hk, rfl⟩
  · rw [if_pos hx]; simp [isN, hx]; rfl
  · rw [isN_n hk]
    by_cases c : k < pg N
    · simp (disch := omega) only [↓bnd_i, ↓cal_s, ↓cal_n, ↓cal2_s, ↓cal2_n, cal_s, cal2_s, ↓reduceIte, fa_lit, m1_lit, m2_lit, m1_lt, m2_lt, m1_eq, m2_eq, m1_le, m2_le, le_m1, le_m2, lt_m1, lt_m2, m12, m21, m1_m1, n_lt, n_le, n_eq, lt_t, lt_f, le_t, le_f, eq_t, eq_f, n_cl, inb_ok, n_add, pk_mul, pk_sub, n_rem, n_div, n_dec, n_mx, n_mn, eq_m1, eq_m2, ss_same, ss_ne, ss_r, ss_l, sr_f, sr_l, sr_same, sr_ne, sw_f, sw_l, sw_at, sw_ne, pk_us, pk_un, bI_t, bI_f, not_true_eq_false, not_false_eq_true, eq_self, and_true, true_and, and_false, false_and, or_true, true_or, or_false, false_or, decide_true, decide_false, Bool.false_eq_true, Bool.true_eq_false, e4]
    · simp (disch := omega) only [↓bnd_i, ↓cal_s, ↓cal_n, ↓cal2_s, ↓cal2_n, cal_s, cal2_s, ↓reduceIte, fa_lit, m1_lit, m2_lit, m1_lt, m2_lt, m1_eq, m2_eq, m1_le, m2_le, le_m1, le_m2, lt_m1, lt_m2, m12, m21, m1_m1, n_lt, n_le, n_eq, lt_t, lt_f, le_t, le_f, eq_t, eq_f, n_cl, inb_ok, n_add, pk_mul, pk_sub, n_rem, n_div, n_dec, n_mx, n_mn, eq_m1, eq_m2, ss_same, ss_ne, ss_r, ss_l, sr_f, sr_l, sr_same, sr_ne, sw_f, sw_l, sw_at, sw_ne, pk_us, pk_un, bI_t, bI_f, not_true_eq_false, not_false_eq_true, eq_self, and_true, true_and, and_false, false_and, or_true, true_or, or_false, false_or, decide_true, decide_false, Bool.false_eq_true, Bool.true_eq_false, e4]
theorem d_hasCopy {F : Nat} {σ : St} {N : Nat → Int32} (h : NN N) (j : JJ σ N) (x : Int32) : f_X0_hasCopy F σ x = some (bI (isN x (nc N))) := by
  obtain ⟨b1, b2, b3, b4, b5, b6, b7, b8⟩ := NNb h
  obtain ⟨e4, e5, e6, e7, e8⟩ := JJf h j
  unfold f_X0_hasCopy
  rcases n_ex x with hx | ⟨k, hk, rfl⟩
  · rw [if_pos hx]; simp [isN, hx]; rfl
  · rw [isN_n hk]
    by_cases c : k < nc N
    · simp (disch := omega) only [↓bnd_i, ↓cal_s, ↓cal_n, ↓cal2_s, ↓cal2_n, cal_s, cal2_s, ↓reduceIte, fa_lit, m1_lit, m2_lit, m1_lt, m2_lt, m1_eq, m2_eq, m1_le, m2_le, le_m1, le_m2, lt_m1, lt_m2, m12, m21, m1_m1, n_lt, n_le, n_eq, lt_t, lt_f, le_t, le_f, eq_t, eq_f, n_cl, inb_ok, n_add, pk_mul, pk_sub, n_rem, n_div, n_dec, n_mx, n_mn, eq_m1, eq_m2, ss_same, ss_ne, ss_r, ss_l, sr_f, sr_l, sr_same, sr_ne, sw_f, sw_l, sw_at, sw_ne, pk_us, pk_un, bI_t, bI_f, not_true_eq_false, not_false_eq_true, eq_self, and_true, true_and, and_false, false_and, or_true, true_or, or_false, false_or, decide_true, decide_false, Bool.false_eq_true, Bool.true_eq_false, e8]
    · simp (disch := omega) only [↓bnd_i, ↓cal_s, ↓cal_n, ↓cal2_s, ↓cal2_n, cal_s, cal2_s, ↓reduceIte, fa_lit, m1_lit, m2_lit, m1_lt, m2_lt, m1_eq, m2_eq, m1_le, m2_le, le_m1, le_m2, lt_m1, lt_m2, m12, m21, m1_m1, n_lt, n_le, n_eq, lt_t, lt_f, le_t, le_f, eq_t, eq_f, n_cl, inb_ok, n_add, pk_mul, pk_sub, n_rem, n_div, n_dec, n_mx, n_mn, eq_m1, eq_m2, ss_same, ss_ne, ss_r, ss_l, sr_f, sr_l, sr_same, sr_ne, sw_f, sw_l, sw_at, sw_ne, pk_us, pk_un, bI_t, bI_f, not_true_eq_false, not_false_eq_true, eq_self, and_true, true_and, and_false, false_and, or_true, true_or, or_false, false_or, decide_true, decide_false, Bool.false_eq_true, Bool.true_eq_false, e8]
theorem d_hasRoomFor {F : Nat} {σ : St} {N : Nat → Int32} (h : NN N) (j : JJ σ N) {k : Nat} (hk : k ≤ 1000) : f_X2_hasRoomFor F σ (nI k) = some (bI (decide (tp N (nl N - 1) + k ≤ 240 ∧ md N + k ≤ 600))) := by
  obtain ⟨b1, b2, b3, b4, b5, b6, b7, b8⟩ := NNb h
  obtain ⟨e4, e5, e6, e7, e8⟩ := JJf h j
  have ht := (h.2.1.1 (nl N - 1) (by omega)).2
  unfold f_X2_hasRoomFor
  by_cases c1 : md N + k ≤ 600
  · by_cases c2 : tp N (nl N - 1) + k ≤ 240
    · simp (disch := omega) only [↓bnd_i, ↓cal_s, ↓cal_n, ↓cal2_s, ↓cal2_n, cal_s, cal2_s, ↓reduceIte, fa_lit, m1_lit, m2_lit, m1_lt, m2_lt, m1_eq, m2_eq, m1_le, m2_le, le_m1, le_m2, lt_m1, lt_m2, m12, m21, m1_m1, n_lt, n_le, n_eq, lt_t, lt_f, le_t, le_f, eq_t, eq_f, n_cl, inb_ok, n_add, pk_mul, pk_sub, n_rem, n_div, n_dec, n_mx, n_mn, eq_m1, eq_m2, ss_same, ss_ne, ss_r, ss_l, sr_f, sr_l, sr_same, sr_ne, sw_f, sw_l, sw_at, sw_ne, pk_us, pk_un, bI_t, bI_f, not_true_eq_false, not_false_eq_true, eq_self, and_true, true_and, and_false, false_and, or_true, true_or, or_false, false_or, decide_true, decide_false, Bool.false_eq_true, Bool.true_eq_false, ↓cal_w (d_now h.1 j.1), d_now h.1 j.1, e7]
    · simp (disch := omega) only [↓bnd_i, ↓cal_s, ↓cal_n, ↓cal2_s, ↓cal2_n, cal_s, cal2_s, ↓reduceIte, fa_lit, m1_lit, m2_lit, m1_lt, m2_lt, m1_eq, m2_eq, m1_le, m2_le, le_m1, le_m2, lt_m1, lt_m2, m12, m21, m1_m1, n_lt, n_le, n_eq, lt_t, lt_f, le_t, le_f, eq_t, eq_f, n_cl, inb_ok, n_add, pk_mul, pk_sub, n_rem, n_div, n_dec, n_mx, n_mn, eq_m1, eq_m2, ss_same, ss_ne, ss_r, ss_l, sr_f, sr_l, sr_same, sr_ne, sw_f, sw_l, sw_at, sw_ne, pk_us, pk_un, bI_t, bI_f, not_true_eq_false, not_false_eq_true, eq_self, and_true, true_and, and_false, false_and, or_true, true_or, or_false, false_or, decide_true, decide_false, Bool.false_eq_true, Bool.true_eq_false, ↓cal_w (d_now h.1 j.1), d_now h.1 j.1, e7]
  · simp (disch := omega) only [↓bnd_i, ↓cal_s, ↓cal_n, ↓cal2_s, ↓cal2_n, cal_s, cal2_s, ↓reduceIte, fa_lit, m1_lit, m2_lit, m1_lt, m2_lt, m1_eq, m2_eq, m1_le, m2_le, le_m1, le_m2, lt_m1, lt_m2, m12, m21, m1_m1, n_lt, n_le, n_eq, lt_t, lt_f, le_t, le_f, eq_t, eq_f, n_cl, inb_ok, n_add, pk_mul, pk_sub, n_rem, n_div, n_dec, n_mx, n_mn, eq_m1, eq_m2, ss_same, ss_ne, ss_r, ss_l, sr_f, sr_l, sr_same, sr_ne, sw_f, sw_l, sw_at, sw_ne, pk_us, pk_un, bI_t, bI_f, not_true_eq_false, not_false_eq_true, eq_self, and_true, true_and, and_false, false_and, or_true, true_or, or_false, false_or, decide_true, decide_false, Bool.false_eq_true, Bool.true_eq_false, ↓cal_w (d_now h.1 j.1), d_now h.1 j.1, e7]
theorem op_come {F : Nat} {σ τ : St} (C : Core σ τ) {s : Nat} (hs : s < 4) {b v : Int32} (hb : s < 2 → ∃ g, g < pg (nw τ) ∧ b = nI g) : Op σ τ (f_X2_come F σ (nI s) b v) (f_X8_comes F τ (nI s) b v) := by
  have b5 := (NNb C.1).2.2.2.2.1
  rw [t_comes C.1.1 C.1.2.1]
  by_cases hr : rm (nw τ)
  · rw [if_pos hr]
    obtain ⟨σ', e1, j', f⟩ := d_come (F := F) C.1 C.2 hr hs (b := b) (v := v)
    refine ⟨_, σ', _, e1, rfl, ?_, f, (FrM.refl τ).sw (by omega) (by omega), ?_⟩
    · unfold Core nw
      rw [sw_at]
      exact ⟨NN_cm C.1 hr hs hb, j'⟩
    · unfold nw
      rw [sw_at, cm_low C.1 hr (by omega) (by omega) (by omega)]
  · rw [if_neg hr, d_comeN C.1 C.2 hr]
    exact Op.same C m1
theorem op_write {F : Nat} {σ τ : St} (C : Core σ τ) (x v : Int32) : Op σ τ (f_X7_write F σ x v) (f_X8_write F τ x v) := by
  have b2 := (NNb C.1).2.1
  unfold f_X7_write f_X8_write
  cases c : isN x (pg (nw τ))
  · simp (disch := omega) only [↓bnd_i, ↓cal_s, ↓cal_n, ↓cal2_s, ↓cal2_n, cal_s, cal2_s, ↓reduceIte, fa_lit, m1_lit, m2_lit, m1_lt, m2_lt, m1_eq, m2_eq, m1_le, m2_le, le_m1, le_m2, lt_m1, lt_m2, m12, m21, m1_m1, n_lt, n_le, n_eq, lt_t, lt_f, le_t, le_f, eq_t, eq_f, n_cl, inb_ok, n_add, pk_mul, pk_sub, n_rem, n_div, n_dec, n_mx, n_mn, eq_m1, eq_m2, ss_same, ss_ne, ss_r, ss_l, sr_f, sr_l, sr_same, sr_ne, sw_f, sw_l, sw_at, sw_ne, pk_us, pk_un, bI_t, bI_f, not_true_eq_false, not_false_eq_true, eq_self, and_true, true_and, and_false, false_and, or_true, true_or, or_false, false_or, decide_true, decide_false, Bool.false_eq_true, Bool.true_eq_false, ↓cal_w (d_hasPage C.1 C.2 x), d_hasPage C.1 C.2 x, ↓cal_w (t_isPage C.1.1 x), t_isPage C.1.1 x, c]
    exact Op.same C m1
  · obtain ⟨g, hg, e⟩ := isN_e c (by omega)
    obtain ⟨r, σ', τ', e1, e2, h⟩ := op_come (F := F) C (s := 0) (by omega) (b := x) (v := v) (fun _ => ⟨g, hg, e⟩)
    simp (disch := omega) only [↓bnd_i, ↓cal_s, ↓cal_n, ↓cal2_s, ↓cal2_n, cal_s, cal2_s, ↓reduceIte, fa_lit, m1_lit, m2_lit, m1_lt, m2_lt, m1_eq, m2_eq, m1_le, m2_le, le_m1, le_m2, lt_m1, lt_m2, m12, m21, m1_m1, n_lt, n_le, n_eq, lt_t, lt_f, le_t, le_f, eq_t, eq_f, n_cl, inb_ok, n_add, pk_mul, pk_sub, n_rem, n_div, n_dec, n_mx, n_mn, eq_m1, eq_m2, ss_same, ss_ne, ss_r, ss_l, sr_f, sr_l, sr_same, sr_ne, sw_f, sw_l, sw_at, sw_ne, pk_us, pk_un, bI_t, bI_f, not_true_eq_false, not_false_eq_true, eq_self, and_true, true_and, and_false, false_and, or_true, true_or, or_false, false_or, decide_true, decide_false, Bool.false_eq_true, Bool.true_eq_false, ↓cal_w (d_hasPage C.1 C.2 x), d_hasPage C.1 C.2 x, ↓cal_w (t_isPage C.1.1 x), t_isPage C.1.1 x, ↓cal2_w (e1), e1, ↓cal2_w (e2), e2, c]
    exact ⟨r, σ', τ', rfl, rfl, h⟩
theorem op_add {F : Nat} {σ τ : St} (C : Core σ τ) (x v : Int32) : Op σ τ (f_X7_add F σ x v) (f_X8_add F τ x v) := by
  have b2 := (NNb C.1).2.1
  unfold f_X7_add f_X8_add
  cases c : isN x (pg (nw τ))
  · simp (disch := omega) only [↓bnd_i, ↓cal_s, ↓cal_n, ↓cal2_s, ↓cal2_n, cal_s, cal2_s, ↓reduceIte, fa_lit, m1_lit, m2_lit, m1_lt, m2_lt, m1_eq, m2_eq, m1_le, m2_le, le_m1, le_m2, lt_m1, lt_m2, m12, m21, m1_m1, n_lt, n_le, n_eq, lt_t, lt_f, le_t, le_f, eq_t, eq_f, n_cl, inb_ok, n_add, pk_mul, pk_sub, n_rem, n_div, n_dec, n_mx, n_mn, eq_m1, eq_m2, ss_same, ss_ne, ss_r, ss_l, sr_f, sr_l, sr_same, sr_ne, sw_f, sw_l, sw_at, sw_ne, pk_us, pk_un, bI_t, bI_f, not_true_eq_false, not_false_eq_true, eq_self, and_true, true_and, and_false, false_and, or_true, true_or, or_false, false_or, decide_true, decide_false, Bool.false_eq_true, Bool.true_eq_false, ↓cal_w (d_hasPage C.1 C.2 x), d_hasPage C.1 C.2 x, ↓cal_w (t_isPage C.1.1 x), t_isPage C.1.1 x, c]
    exact Op.same C m1
  · obtain ⟨g, hg, e⟩ := isN_e c (by omega)
    obtain ⟨r, σ', τ', e1, e2, h⟩ := op_come (F := F) C (s := 1) (by omega) (b := x) (v := v) (fun _ => ⟨g, hg, e⟩)
    simp (disch := omega) only [↓bnd_i, ↓cal_s, ↓cal_n, ↓cal2_s, ↓cal2_n, cal_s, cal2_s, ↓reduceIte, fa_lit, m1_lit, m2_lit, m1_lt, m2_lt, m1_eq, m2_eq, m1_le, m2_le, le_m1, le_m2, lt_m1, lt_m2, m12, m21, m1_m1, n_lt, n_le, n_eq, lt_t, lt_f, le_t, le_f, eq_t, eq_f, n_cl, inb_ok, n_add, pk_mul, pk_sub, n_rem, n_div, n_dec, n_mx, n_mn, eq_m1, eq_m2, ss_same, ss_ne, ss_r, ss_l, sr_f, sr_l, sr_same, sr_ne, sw_f, sw_l, sw_at, sw_ne, pk_us, pk_un, bI_t, bI_f, not_true_eq_false, not_false_eq_true, eq_self, and_true, true_and, and_false, false_and, or_true, true_or, or_false, false_or, decide_true, decide_false, Bool.false_eq_true, Bool.true_eq_false, ↓cal_w (d_hasPage C.1 C.2 x), d_hasPage C.1 C.2 x, ↓cal_w (t_isPage C.1.1 x), t_isPage C.1.1 x, ↓cal2_w (e1), e1, ↓cal2_w (e2), e2, c]
    exact ⟨r, σ', τ', rfl, rfl, h⟩
theorem op_mark {F : Nat} {σ τ : St} (C : Core σ τ) (x : Int32) : Op σ τ (f_X7_mark F σ x) (f_X8_mark F τ x) := by
  unfold f_X7_mark f_X8_mark
  obtain ⟨r, σ', τ', e1, e2, h⟩ := op_come (F := F) C (s := 2) (by omega) (b := x) (v := nI 0) (fun h => absurd h (by omega))
  simp (disch := omega) only [↓bnd_i, ↓cal_s, ↓cal_n, ↓cal2_s, ↓cal2_n, cal_s, cal2_s, ↓reduceIte, fa_lit, m1_lit, m2_lit, m1_lt, m2_lt, m1_eq, m2_eq, m1_le, m2_le, le_m1, le_m2, lt_m1, lt_m2, m12, m21, m1_m1, n_lt, n_le, n_eq, lt_t, lt_f, le_t, le_f, eq_t, eq_f, n_cl, inb_ok, n_add, pk_mul, pk_sub, n_rem, n_div, n_dec, n_mx, n_mn, eq_m1, eq_m2, ss_same, ss_ne, ss_r, ss_l, sr_f, sr_l, sr_same, sr_ne, sw_f, sw_l, sw_at, sw_ne, pk_us, pk_un, bI_t, bI_f, not_true_eq_false, not_false_eq_true, eq_self, and_true, true_and, and_false, false_and, or_true, true_or, or_false, false_or, decide_true, decide_false, Bool.false_eq_true, Bool.true_eq_false, ↓cal_w (e1), e1, ↓cal_w (e2), e2, ↓cal2_w (e1), e1, ↓cal2_w (e2), e2]
  exact ⟨r, σ', τ', rfl, rfl, h⟩
theorem op_fillL {F : Nat} : ∀ (n k m : Nat) (σ τ : St), Core σ τ → k < n → m ≤ 8 → k ≤ m → tp (nw τ) (nl (nw τ) - 1) + k ≤ 240 → md (nw τ) + k ≤ 600 → Op σ τ (f_X7_fill_23 F n σ (nI m) (nI (m - k))) (f_X8_fill_47 F n τ (nI m) (nI (m - k))) := by
  intro n
  induction n with
  | zero => intro k m σ τ C h; omega
  | succ n ih =>
    intro k m σ τ C hn hm hk ht hd
    obtain ⟨b1, b2, b3, b4, b5, b6, b7, b8⟩ := NNb C.1
    rw [f_X7_fill_23, f_X8_fill_47]
    by_cases c : k = 0
    · subst c
      simp (disch := omega) only [↓bnd_i, ↓cal_s, ↓cal_n, ↓cal2_s, ↓cal2_n, cal_s, cal2_s, ↓reduceIte, fa_lit, m1_lit, m2_lit, m1_lt, m2_lt, m1_eq, m2_eq, m1_le, m2_le, le_m1, le_m2, lt_m1, lt_m2, m12, m21, m1_m1, n_lt, n_le, n_eq, lt_t, lt_f, le_t, le_f, eq_t, eq_f, n_cl, inb_ok, n_add, pk_mul, pk_sub, n_rem, n_div, n_dec, n_mx, n_mn, eq_m1, eq_m2, ss_same, ss_ne, ss_r, ss_l, sr_f, sr_l, sr_same, sr_ne, sw_f, sw_l, sw_at, sw_ne, pk_us, pk_un, bI_t, bI_f, not_true_eq_false, not_false_eq_true, eq_self, and_true, true_and, and_false, false_and, or_true, true_or, or_false, false_or, decide_true, decide_false, Bool.false_eq_true, Bool.true_eq_false]
      exact Op.same C _
    · have hr : rm (nw τ) := ⟨by omega, by omega⟩
      obtain ⟨σ', e1, j', f⟩ := d_come (F := F) C.1 C.2 hr (s := 3) (by omega) (b := m2) (v := nI 0)
      have e2 := t_comes (F := F) C.1.1 C.1.2.1 (nI 3) m2 (nI 0)
      rw [if_pos hr] at e2
      simp (disch := omega) only [↓bnd_i, ↓cal_s, ↓cal_n, ↓cal2_s, ↓cal2_n, cal_s, cal2_s, ↓reduceIte, fa_lit, m1_lit, m2_lit, m1_lt, m2_lt, m1_eq, m2_eq, m1_le, m2_le, le_m1, le_m2, lt_m1, lt_m2, m12, m21, m1_m1, n_lt, n_le, n_eq, lt_t, lt_f, le_t, le_f, eq_t, eq_f, n_cl, inb_ok, n_add, pk_mul, pk_sub, n_rem, n_div, n_dec, n_mx, n_mn, eq_m1, eq_m2, ss_same, ss_ne, ss_r, ss_l, sr_f, sr_l, sr_same, sr_ne, sw_f, sw_l, sw_at, sw_ne, pk_us, pk_un, bI_t, bI_f, not_true_eq_false, not_false_eq_true, eq_self, and_true, true_and, and_false, false_and, or_true, true_or, or_false, false_or, decide_true, decide_false, Bool.false_eq_true, Bool.true_eq_false, ↓cal2_w (e1), e1, ↓cal2_w (e2), e2]
      rw [show m - k + 1 = m - (k - 1) by omega]
      have hN := NN_cm C.1 hr (s := 3) (by omega) (b := m2) (v := nI 0) (fun h => absurd h (by omega))
      refine Op.then f ((FrM.refl τ).sw (by omega) (by omega)) ?_ (ih (k - 1) m σ' _ ?_ (by omega) hm (by omega) ?_ ?_)
      · unfold nw
        rw [sw_at, cm_low C.1 hr (by omega) (by omega) (by omega)]
      · unfold Core nw
        rw [sw_at]
        exact ⟨hN, j'⟩
      · unfold nw
        rw [sw_at, cm_nl C.1 hr, cm_tp C.1 hr _ (by omega), if_pos rfl]
        omega
      · unfold nw
        rw [sw_at, cm_md C.1 hr]
        omega
theorem op_fill {F : Nat} (hF : 100 < F) {σ τ : St} (C : Core σ τ) : Op σ τ (f_X7_fill F σ) (f_X8_fill F τ) := by
  obtain ⟨b1, b2, b3, b4, b5, b6, b7, b8⟩ := NNb C.1
  have ht := C.1.2.1.1 (nl (nw τ) - 1) (by omega)
  have h3 : τ.2.1 19 3 = nI (nl (nw τ) - 1) := C.1.1.2.2.2.1
  have h1 : τ.2.1 19 1 = nI (wd (nw τ)) := C.1.1.2.1.1
  have hm := Nat.mod_lt (tp (nw τ) (nl (nw τ) - 1)) (show 0 < wd (nw τ) by omega)
  have dm := d_missing (F := F) C.1 C.2
  unfold f_X7_fill f_X8_fill f_X8_fill_34
  by_cases c : tp (nw τ) (nl (nw τ) - 1) % wd (nw τ) = 0
  · rw [if_pos c] at dm
    have ha := d_hasRoomFor (F := F) C.1 C.2 (k := 0) (by omega)
    have hb := t_hasRoom (F := F) C.1.1 C.1.2.1 (k := 0) (by omega)
    have hl := op_fillL (F := F) F 0 0 σ τ C (by omega) (by omega) (by omega) (by omega) (by omega)
    simp (disch := omega) only [↓bnd_i, ↓cal_s, ↓cal_n, ↓cal2_s, ↓cal2_n, cal_s, cal2_s, ↓reduceIte, fa_lit, m1_lit, m2_lit, m1_lt, m2_lt, m1_eq, m2_eq, m1_le, m2_le, le_m1, le_m2, lt_m1, lt_m2, m12, m21, m1_m1, n_lt, n_le, n_eq, lt_t, lt_f, le_t, le_f, eq_t, eq_f, n_cl, inb_ok, n_add, pk_mul, pk_sub, n_rem, n_div, n_dec, n_mx, n_mn, eq_m1, eq_m2, ss_same, ss_ne, ss_r, ss_l, sr_f, sr_l, sr_same, sr_ne, sw_f, sw_l, sw_at, sw_ne, pk_us, pk_un, bI_t, bI_f, not_true_eq_false, not_false_eq_true, eq_self, and_true, true_and, and_false, false_and, or_true, true_or, or_false, false_or, decide_true, decide_false, Bool.false_eq_true, Bool.true_eq_false, ↓cal_w (dm), dm, ↓cal_w (ha), ha, ↓cal_w (hb), hb, ↓cal_w (t_placeOf (τ := τ) (l := nl (nw τ) - 1) (by omega)), t_placeOf (τ := τ) (l := nl (nw τ) - 1) (by omega), h3, h1, ht.1, c]
    exact hl
  · rw [if_neg c] at dm
    generalize hk : wd (nw τ) - tp (nw τ) (nl (nw τ) - 1) % wd (nw τ) = k at *
    have ha := d_hasRoomFor (F := F) C.1 C.2 (k := k) (by omega)
    have hb := t_hasRoom (F := F) C.1.1 C.1.2.1 (k := k) (by omega)
    by_cases c2 : tp (nw τ) (nl (nw τ) - 1) + k ≤ 240 ∧ md (nw τ) + k ≤ 600
    · have hl := op_fillL (F := F) F k k σ τ C (by omega) (by omega) (by omega) (by omega) (by omega)
      rw [Nat.sub_self] at hl
      simp (disch := omega) only [↓bnd_i, ↓cal_s, ↓cal_n, ↓cal2_s, ↓cal2_n, cal_s, cal2_s, ↓reduceIte, fa_lit, m1_lit, m2_lit, m1_lt, m2_lt, m1_eq, m2_eq, m1_le, m2_le, le_m1, le_m2, lt_m1, lt_m2, m12, m21, m1_m1, n_lt, n_le, n_eq, lt_t, lt_f, le_t, le_f, eq_t, eq_f, n_cl, inb_ok, n_add, pk_mul, pk_sub, n_rem, n_div, n_dec, n_mx, n_mn, eq_m1, eq_m2, ss_same, ss_ne, ss_r, ss_l, sr_f, sr_l, sr_same, sr_ne, sw_f, sw_l, sw_at, sw_ne, pk_us, pk_un, bI_t, bI_f, not_true_eq_false, not_false_eq_true, eq_self, and_true, true_and, and_false, false_and, or_true, true_or, or_false, false_or, decide_true, decide_false, Bool.false_eq_true, Bool.true_eq_false, ↓cal_w (dm), dm, ↓cal_w (ha), ha, ↓cal_w (hb), hb, ↓cal_w (t_placeOf (τ := τ) (l := nl (nw τ) - 1) (by omega)), t_placeOf (τ := τ) (l := nl (nw τ) - 1) (by omega), h3, h1, ht.1, hk, decide_eq_true c2]
      exact hl
    · simp (disch := omega) only [↓bnd_i, ↓cal_s, ↓cal_n, ↓cal2_s, ↓cal2_n, cal_s, cal2_s, ↓reduceIte, fa_lit, m1_lit, m2_lit, m1_lt, m2_lt, m1_eq, m2_eq, m1_le, m2_le, le_m1, le_m2, lt_m1, lt_m2, m12, m21, m1_m1, n_lt, n_le, n_eq, lt_t, lt_f, le_t, le_f, eq_t, eq_f, n_cl, inb_ok, n_add, pk_mul, pk_sub, n_rem, n_div, n_dec, n_mx, n_mn, eq_m1, eq_m2, ss_same, ss_ne, ss_r, ss_l, sr_f, sr_l, sr_same, sr_ne, sw_f, sw_l, sw_at, sw_ne, pk_us, pk_un, bI_t, bI_f, not_true_eq_false, not_false_eq_true, eq_self, and_true, true_and, and_false, false_and, or_true, true_or, or_false, false_or, decide_true, decide_false, Bool.false_eq_true, Bool.true_eq_false, ↓cal_w (dm), dm, ↓cal_w (ha), ha, ↓cal_w (hb), hb, ↓cal_w (t_placeOf (τ := τ) (l := nl (nw τ) - 1) (by omega)), t_placeOf (τ := τ) (l := nl (nw τ) - 1) (by omega), h3, h1, ht.1, hk, decide_eq_false c2]
      exact Op.same C m1
