/-! PURE: count -/
theorem or_0 (x : Int32) : x ||| nI 0 = x := b_ext (fun i hi => by rw [b_or, bt_nI _ hi, Nat.zero_testBit, Bool.or_false])
theorem d_fitOnes {F : Nat} (hF : 300 < F) {σ : St} {N : Nat → Int32} (h : NN N) (j : JJ σ N) : f_X0_fitOnes F σ (nI (pg N)) = some (nI (bs (ft N) (nc N))) := by
  obtain ⟨b1, b2, b3, b4, b5, b6, b7, b8⟩ := NNb h
  obtain ⟨e4, e5, e6, e7, e8⟩ := JJf h j
  have key : ∀ n c, c ≤ nc N → nc N - c < n → f_X0_fitOnes_4 F n σ (nI (pg N)) (nI (bs (ft N) c)) (nI c) = some (nI (bs (ft N) (nc N))) := by
    intro n
    induction n with
    | zero => intro c _ h; omega
    | succ n ih =>
      intro c hc hn
      rw [f_X0_fitOnes_4]
      by_cases e : c = nc N
      · rw [e]
        simp (disch := omega) only [↓bnd_i, ↓cal_s, ↓cal_n, ↓cal2_s, ↓cal2_n, cal_s, cal2_s, ↓reduceIte, fa_lit, m1_lit, m2_lit, m1_lt, m2_lt, m1_eq, m2_eq, m1_le, m2_le, le_m1, le_m2, lt_m1, lt_m2, m12, m21, m1_m1, n_lt, n_le, n_eq, lt_t, lt_f, le_t, le_f, eq_t, eq_f, n_cl, inb_ok, n_add, pk_mul, pk_sub, n_rem, n_div, n_dec, n_mx, n_mn, eq_m1, eq_m2, ss_same, ss_ne, ss_r, ss_l, sr_f, sr_l, sr_same, sr_ne, sw_f, sw_l, sw_at, sw_ne, pk_us, pk_un, bI_t, bI_f, not_true_eq_false, not_false_eq_true, eq_self, and_true, true_and, and_false, false_and, or_true, true_or, or_false, false_or, decide_true, decide_false, Bool.false_eq_true, Bool.true_eq_false, e8]
      · have ih' := ih (c + 1) (by omega) (by omega)
        have w := d_isFit (F := F) (by omega) h j (show c < nc N by omega)
        cases d : ft N c
        · rw [d] at w
          rw [← st_F d] at ih'
          simp (disch := omega) only [↓bnd_i, ↓cal_s, ↓cal_n, ↓cal2_s, ↓cal2_n, cal_s, cal2_s, ↓reduceIte, fa_lit, m1_lit, m2_lit, m1_lt, m2_lt, m1_eq, m2_eq, m1_le, m2_le, le_m1, le_m2, lt_m1, lt_m2, m12, m21, m1_m1, n_lt, n_le, n_eq, lt_t, lt_f, le_t, le_f, eq_t, eq_f, n_cl, inb_ok, n_add, pk_mul, pk_sub, n_rem, n_div, n_dec, n_mx, n_mn, eq_m1, eq_m2, ss_same, ss_ne, ss_r, ss_l, sr_f, sr_l, sr_same, sr_ne, sw_f, sw_l, sw_at, sw_ne, pk_us, pk_un, bI_t, bI_f, not_true_eq_false, not_false_eq_true, eq_self, and_true, true_and, and_false, false_and, or_true, true_or, or_false, false_or, decide_true, decide_false, Bool.false_eq_true, Bool.true_eq_false, ↓cal_w (w), w, e8, f_X0_fitOnes_29, or_0]
          exact ih'
        · rw [d] at w
          rw [← st_T (by omega) d] at ih'
          simp (disch := omega) only [↓bnd_i, ↓cal_s, ↓cal_n, ↓cal2_s, ↓cal2_n, cal_s, cal2_s, ↓reduceIte, fa_lit, m1_lit, m2_lit, m1_lt, m2_lt, m1_eq, m2_eq, m1_le, m2_le, le_m1, le_m2, lt_m1, lt_m2, m12, m21, m1_m1, n_lt, n_le, n_eq, lt_t, lt_f, le_t, le_f, eq_t, eq_f, n_cl, inb_ok, n_add, pk_mul, pk_sub, n_rem, n_div, n_dec, n_mx, n_mn, eq_m1, eq_m2, ss_same, ss_ne, ss_r, ss_l, sr_f, sr_l, sr_same, sr_ne, sw_f, sw_l, sw_at, sw_ne, pk_us, pk_un, bI_t, bI_f, not_true_eq_false, not_false_eq_true, eq_self, and_true, true_and, and_false, false_and, or_true, true_or, or_false, false_or, decide_true, decide_false, Bool.false_eq_true, Bool.true_eq_false, ↓cal_w (w), w, e8, f_X0_fitOnes_29]
          exact ih'
  exact key F 0 (by omega) (by omega)
theorem t_copyBits {F : Nat} (hF : 300 < F) {τ : St} (h : NN (nw τ)) {w : Nat} {f : Nat → Bool} (hw : (w = 0 ∧ ∀ c, f c = ft (nw τ) c) ∨ (w = 2 ∧ ∀ c, f c = co (nw τ) c) ∨ (w = 3 ∧ ∀ c, f c = cd (nw τ) c)) : f_X8_copyBits F τ (nI w) = some (nI (bs f (nc (nw τ)))) := by
  obtain ⟨b1, b2, b3, b4, b5, b6, b7, b8⟩ := NNb h
  have h5 : τ.2.1 19 5 = nI (nc (nw τ)) := h.1.2.2.2.2.2.1.1
  have key : ∀ n c, c ≤ nc (nw τ) → nc (nw τ) - c < n → f_X8_copyBits_4 F n τ (nI w) (nI (bs f c)) (nI c) = some (nI (bs f (nc (nw τ)))) := by
    intro n
    induction n with
    | zero => intro c _ h; omega
    | succ n ih =>
      intro c hc hn
      rw [f_X8_copyBits_4]
      by_cases e : c = nc (nw τ)
      · rw [e]
        simp (disch := omega) only [↓bnd_i, ↓cal_s, ↓cal_n, ↓cal2_s, ↓cal2_n, cal_s, cal2_s, ↓reduceIte, fa_lit, m1_lit, m2_lit, m1_lt, m2_lt, m1_eq, m2_eq, m1_le, m2_le, le_m1, le_m2, lt_m1, lt_m2, m12, m21, m1_m1, n_lt, n_le, n_eq, lt_t, lt_f, le_t, le_f, eq_t, eq_f, n_cl, inb_ok, n_add, pk_mul, pk_sub, n_rem, n_div, n_dec, n_mx, n_mn, eq_m1, eq_m2, ss_same, ss_ne, ss_r, ss_l, sr_f, sr_l, sr_same, sr_ne, sw_f, sw_l, sw_at, sw_ne, pk_us, pk_un, bI_t, bI_f, not_true_eq_false, not_false_eq_true, eq_self, and_true, true_and, and_false, false_and, or_true, true_or, or_false, false_or, decide_true, decide_false, Bool.false_eq_true, Bool.true_eq_false, h5]
      · have ih' := ih (c + 1) (by omega) (by omega)
        have hx := h.2.2.2.2 c (by omega)
        rcases hw with ⟨rfl, hf⟩ | ⟨rfl, hf⟩ | ⟨rfl, hf⟩
        · have w := t_isFit (F := F) (by omega) h (show c < nc (nw τ) by omega)
          rw [← hf c] at w
          cases d : f c
          · rw [d] at w
            rw [← st_F d] at ih'
            simp (disch := omega) only [↓bnd_i, ↓cal_s, ↓cal_n, ↓cal2_s, ↓cal2_n, cal_s, cal2_s, ↓reduceIte, fa_lit, m1_lit, m2_lit, m1_lt, m2_lt, m1_eq, m2_eq, m1_le, m2_le, le_m1, le_m2, lt_m1, lt_m2, m12, m21, m1_m1, n_lt, n_le, n_eq, lt_t, lt_f, le_t, le_f, eq_t, eq_f, n_cl, inb_ok, n_add, pk_mul, pk_sub, n_rem, n_div, n_dec, n_mx, n_mn, eq_m1, eq_m2, ss_same, ss_ne, ss_r, ss_l, sr_f, sr_l, sr_same, sr_ne, sw_f, sw_l, sw_at, sw_ne, pk_us, pk_un, bI_t, bI_f, not_true_eq_false, not_false_eq_true, eq_self, and_true, true_and, and_false, false_and, or_true, true_or, or_false, false_or, decide_true, decide_false, Bool.false_eq_true, Bool.true_eq_false, ↓cal_w (w), w, h5, f_X8_copyBits_45]
            exact ih'
          · rw [d] at w
            rw [← st_T (by omega) d] at ih'
            simp (disch := omega) only [↓bnd_i, ↓cal_s, ↓cal_n, ↓cal2_s, ↓cal2_n, cal_s, cal2_s, ↓reduceIte, fa_lit, m1_lit, m2_lit, m1_lt, m2_lt, m1_eq, m2_eq, m1_le, m2_le, le_m1, le_m2, lt_m1, lt_m2, m12, m21, m1_m1, n_lt, n_le, n_eq, lt_t, lt_f, le_t, le_f, eq_t, eq_f, n_cl, inb_ok, n_add, pk_mul, pk_sub, n_rem, n_div, n_dec, n_mx, n_mn, eq_m1, eq_m2, ss_same, ss_ne, ss_r, ss_l, sr_f, sr_l, sr_same, sr_ne, sw_f, sw_l, sw_at, sw_ne, pk_us, pk_un, bI_t, bI_f, not_true_eq_false, not_false_eq_true, eq_self, and_true, true_and, and_false, false_and, or_true, true_or, or_false, false_or, decide_true, decide_false, Bool.false_eq_true, Bool.true_eq_false, ↓cal_w (w), w, h5, f_X8_copyBits_39, f_X8_copyBits_45]
            exact ih'
        · have w := t_ofCopy (F := F) (τ := τ) (c := c) (k := 2) (by omega) (by omega)
          rw [hx.2.1, ← hf c] at w
          cases d : f c
          · rw [d] at w
            rw [← st_F d] at ih'
            simp (disch := omega) only [↓bnd_i, ↓cal_s, ↓cal_n, ↓cal2_s, ↓cal2_n, cal_s, cal2_s, ↓reduceIte, fa_lit, m1_lit, m2_lit, m1_lt, m2_lt, m1_eq, m2_eq, m1_le, m2_le, le_m1, le_m2, lt_m1, lt_m2, m12, m21, m1_m1, n_lt, n_le, n_eq, lt_t, lt_f, le_t, le_f, eq_t, eq_f, n_cl, inb_ok, n_add, pk_mul, pk_sub, n_rem, n_div, n_dec, n_mx, n_mn, eq_m1, eq_m2, ss_same, ss_ne, ss_r, ss_l, sr_f, sr_l, sr_same, sr_ne, sw_f, sw_l, sw_at, sw_ne, pk_us, pk_un, bI_t, bI_f, not_true_eq_false, not_false_eq_true, eq_self, and_true, true_and, and_false, false_and, or_true, true_or, or_false, false_or, decide_true, decide_false, Bool.false_eq_true, Bool.true_eq_false, ↓cal_w (w), w, h5, f_X8_copyBits_45]
            exact ih'
          · rw [d] at w
            rw [← st_T (by omega) d] at ih'
            simp (disch := omega) only [↓bnd_i, ↓cal_s, ↓cal_n, ↓cal2_s, ↓cal2_n, cal_s, cal2_s, ↓reduceIte, fa_lit, m1_lit, m2_lit, m1_lt, m2_lt, m1_eq, m2_eq, m1_le, m2_le, le_m1, le_m2, lt_m1, lt_m2, m12, m21, m1_m1, n_lt, n_le, n_eq, lt_t, lt_f, le_t, le_f, eq_t, eq_f, n_cl, inb_ok, n_add, pk_mul, pk_sub, n_rem, n_div, n_dec, n_mx, n_mn, eq_m1, eq_m2, ss_same, ss_ne, ss_r, ss_l, sr_f, sr_l, sr_same, sr_ne, sw_f, sw_l, sw_at, sw_ne, pk_us, pk_un, bI_t, bI_f, not_true_eq_false, not_false_eq_true, eq_self, and_true, true_and, and_false, false_and, or_true, true_or, or_false, false_or, decide_true, decide_false, Bool.false_eq_true, Bool.true_eq_false, ↓cal_w (w), w, h5, f_X8_copyBits_39, f_X8_copyBits_45]
            exact ih'
        · have w := t_ofCopy (F := F) (τ := τ) (c := c) (k := 3) (by omega) (by omega)
          rw [hx.2.2.1, ← hf c] at w
          cases d : f c
          · rw [d] at w
            rw [← st_F d] at ih'
            simp (disch := omega) only [↓bnd_i, ↓cal_s, ↓cal_n, ↓cal2_s, ↓cal2_n, cal_s, cal2_s, ↓reduceIte, fa_lit, m1_lit, m2_lit, m1_lt, m2_lt, m1_eq, m2_eq, m1_le, m2_le, le_m1, le_m2, lt_m1, lt_m2, m12, m21, m1_m1, n_lt, n_le, n_eq, lt_t, lt_f, le_t, le_f, eq_t, eq_f, n_cl, inb_ok, n_add, pk_mul, pk_sub, n_rem, n_div, n_dec, n_mx, n_mn, eq_m1, eq_m2, ss_same, ss_ne, ss_r, ss_l, sr_f, sr_l, sr_same, sr_ne, sw_f, sw_l, sw_at, sw_ne, pk_us, pk_un, bI_t, bI_f, not_true_eq_false, not_false_eq_true, eq_self, and_true, true_and, and_false, false_and, or_true, true_or, or_false, false_or, decide_true, decide_false, Bool.false_eq_true, Bool.true_eq_false, ↓cal_w (w), w, h5, f_X8_copyBits_45]
            exact ih'
          · rw [d] at w
            rw [← st_T (by omega) d] at ih'
            simp (disch := omega) only [↓bnd_i, ↓cal_s, ↓cal_n, ↓cal2_s, ↓cal2_n, cal_s, cal2_s, ↓reduceIte, fa_lit, m1_lit, m2_lit, m1_lt, m2_lt, m1_eq, m2_eq, m1_le, m2_le, le_m1, le_m2, lt_m1, lt_m2, m12, m21, m1_m1, n_lt, n_le, n_eq, lt_t, lt_f, le_t, le_f, eq_t, eq_f, n_cl, inb_ok, n_add, pk_mul, pk_sub, n_rem, n_div, n_dec, n_mx, n_mn, eq_m1, eq_m2, ss_same, ss_ne, ss_r, ss_l, sr_f, sr_l, sr_same, sr_ne, sw_f, sw_l, sw_at, sw_ne, pk_us, pk_un, bI_t, bI_f, not_true_eq_false, not_false_eq_true, eq_self, and_true, true_and, and_false, false_and, or_true, true_or, or_false, false_or, decide_true, decide_false, Bool.false_eq_true, Bool.true_eq_false, ↓cal_w (w), w, h5, f_X8_copyBits_39, f_X8_copyBits_45]
            exact ih'
  exact key F 0 (by omega) (by omega)
def kfl (N : Nat → Int32) (i : Nat) : Bool := kpt N (i / 120) (i % 120)
theorem kfl_ks {N : Nat → Int32} : ∀ l, fb_ct (kfl N) (120 * l) = ksF N l
  | 0 => rfl
  | l + 1 => by
    rw [show 120 * (l + 1) = 120 * l + 120 by omega, fb_ct_split, kfl_ks l]
    unfold ksF
    rw [fb_sm_succ]
    refine congrArg (fun z => fb_sm (fun l => fb_ct (kpt N l) 120) l + z) (fb_ct_cong (fun k hk => ?_))
    unfold kfl
    rw [show (120 * l + k) / 120 = l by omega, show (120 * l + k) % 120 = k by omega]
theorem ks_8 {N : Nat → Int32} (h : NN N) : ksF N 8 = ksF N (nl N) := by
  obtain ⟨b1, b2, b3, b4, b5, b6, b7, b8⟩ := NNb h
  unfold ksF
  have e := fb_sm_split (fun l => fb_ct (kpt N l) 120) (nl N) (8 - nl N)
  rw [show nl N + (8 - nl N) = 8 by omega] at e
  have z : fb_sm (fun k => fb_ct (kpt N (nl N + k)) 120) (8 - nl N) = fb_sm (fun _ => 0) (8 - nl N) := fb_sm_cong (fun k hk => fb_ct_zero.mpr (fun i hi => by
    unfold kpt
    rw [h.2.2.1.2 (nl N + k) i (by omega) (by omega) hi]
    rfl))
  rw [fb_sm_const] at z
  omega
theorem t_count9 {F : Nat} (hF : 1000 < F) {τ : St} (h : NN (nw τ)) : f_X8_count_148 F F τ (nI 0) (nI 420) = some (nI (ksF (nw τ) (nl (nw τ)))) := by
  rw [← ks_8 h, ← kfl_ks 8]
  have key : ∀ n i, i ≤ 960 → 960 - i < n → f_X8_count_148 F n τ (nI (fb_ct (kfl (nw τ)) i)) (nI (420 + i)) = some (nI (fb_ct (kfl (nw τ)) (120 * 8))) := by
    intro n
    induction n with
    | zero => intro i _ h; omega
    | succ n ih =>
      intro i hi hn
      rw [f_X8_count_148]
      by_cases e : i = 960
      · rw [e]
        simp (disch := omega) only [↓bnd_i, ↓cal_s, ↓cal_n, ↓cal2_s, ↓cal2_n, cal_s, cal2_s, ↓reduceIte, fa_lit, m1_lit, m2_lit, m1_lt, m2_lt, m1_eq, m2_eq, m1_le, m2_le, le_m1, le_m2, lt_m1, lt_m2, m12, m21, m1_m1, n_lt, n_le, n_eq, lt_t, lt_f, le_t, le_f, eq_t, eq_f, n_cl, inb_ok, n_add, pk_mul, pk_sub, n_rem, n_div, n_dec, n_mx, n_mn, eq_m1, eq_m2, ss_same, ss_ne, ss_r, ss_l, sr_f, sr_l, sr_same, sr_ne, sw_f, sw_l, sw_at, sw_ne, pk_us, pk_un, bI_t, bI_f, not_true_eq_false, not_false_eq_true, eq_self, and_true, true_and, and_false, false_and, or_true, true_or, or_false, false_or, decide_true, decide_false, Bool.false_eq_true, Bool.true_eq_false]
      · have ih' := ih (i + 1) (by omega) (by omega)
        have hkp := h.2.2.1.1 (i / 120) (i % 120) (by omega) (by omega)
        have e1 : τ.2.1 19 (420 + i) = nI (kp (nw τ) (i / 120) (i % 120)) := by
          have := hkp.1
          rw [show 420 + 120 * (i / 120) + i % 120 = 420 + i by omega] at this
          exact this
        have hk4 := hkp.2
        have hct := fb_ct_le (kfl (nw τ)) i
        rw [fb_ct_succ] at ih'
        by_cases z : kp (nw τ) (i / 120) (i % 120) = 0
        · rw [show kfl (nw τ) i = false from decide_eq_false (by omega)] at ih'
          simp only [Bool.false_eq_true, if_false, Nat.add_zero] at ih'
          simp (disch := omega) only [↓bnd_i, ↓cal_s, ↓cal_n, ↓cal2_s, ↓cal2_n, cal_s, cal2_s, ↓reduceIte, fa_lit, m1_lit, m2_lit, m1_lt, m2_lt, m1_eq, m2_eq, m1_le, m2_le, le_m1, le_m2, lt_m1, lt_m2, m12, m21, m1_m1, n_lt, n_le, n_eq, lt_t, lt_f, le_t, le_f, eq_t, eq_f, n_cl, inb_ok, n_add, pk_mul, pk_sub, n_rem, n_div, n_dec, n_mx, n_mn, eq_m1, eq_m2, ss_same, ss_ne, ss_r, ss_l, sr_f, sr_l, sr_same, sr_ne, sw_f, sw_l, sw_at, sw_ne, pk_us, pk_un, bI_t, bI_f, not_true_eq_false, not_false_eq_true, eq_self, and_true, true_and, and_false, false_and, or_true, true_or, or_false, false_or, decide_true, decide_false, Bool.false_eq_true, Bool.true_eq_false, e1, f_X8_count_167, Nat.add_assoc]
          exact ih'
        · rw [show kfl (nw τ) i = true from decide_eq_true (by omega)] at ih'
          simp only [if_true] at ih'
          simp (disch := omega) only [↓bnd_i, ↓cal_s, ↓cal_n, ↓cal2_s, ↓cal2_n, cal_s, cal2_s, ↓reduceIte, fa_lit, m1_lit, m2_lit, m1_lt, m2_lt, m1_eq, m2_eq, m1_le, m2_le, le_m1, le_m2, lt_m1, lt_m2, m12, m21, m1_m1, n_lt, n_le, n_eq, lt_t, lt_f, le_t, le_f, eq_t, eq_f, n_cl, inb_ok, n_add, pk_mul, pk_sub, n_rem, n_div, n_dec, n_mx, n_mn, eq_m1, eq_m2, ss_same, ss_ne, ss_r, ss_l, sr_f, sr_l, sr_same, sr_ne, sw_f, sw_l, sw_at, sw_ne, pk_us, pk_un, bI_t, bI_f, not_true_eq_false, not_false_eq_true, eq_self, and_true, true_and, and_false, false_and, or_true, true_or, or_false, false_or, decide_true, decide_false, Bool.false_eq_true, Bool.true_eq_false, e1, f_X8_count_167, Nat.add_assoc]
          exact ih'
  exact key F 0 (by omega) (by omega)
def sMk (σ : St) (r : Nat) : Bool := decide (σ.2.1 15 r = nI 2)
theorem d_marks {F : Nat} (hF : 1000 < F) {σ : St} {N : Nat → Int32} (h : NN N) (j : JJ σ N) : f_X2_marks F σ = some (nI (fb_ct (sMk σ) (md N))) := by
  obtain ⟨b1, b2, b3, b4, b5, b6, b7, b8⟩ := NNb h
  obtain ⟨e4, e5, e6, e7, e8⟩ := JJf h j
  have key : ∀ n i, i ≤ md N → md N - i < n → f_X2_marks_4 F n σ (nI (fb_ct (sMk σ) i)) (nI i) = some (nI (fb_ct (sMk σ) (md N))) := by
    intro n
    induction n with
    | zero => intro i _ h; omega
    | succ n ih =>
      intro i hi hn
      rw [f_X2_marks_4]
      by_cases e : i = md N
      · rw [e]
        simp (disch := omega) only [↓bnd_i, ↓cal_s, ↓cal_n, ↓cal2_s, ↓cal2_n, cal_s, cal2_s, ↓reduceIte, fa_lit, m1_lit, m2_lit, m1_lt, m2_lt, m1_eq, m2_eq, m1_le, m2_le, le_m1, le_m2, lt_m1, lt_m2, m12, m21, m1_m1, n_lt, n_le, n_eq, lt_t, lt_f, le_t, le_f, eq_t, eq_f, n_cl, inb_ok, n_add, pk_mul, pk_sub, n_rem, n_div, n_dec, n_mx, n_mn, eq_m1, eq_m2, ss_same, ss_ne, ss_r, ss_l, sr_f, sr_l, sr_same, sr_ne, sw_f, sw_l, sw_at, sw_ne, pk_us, pk_un, bI_t, bI_f, not_true_eq_false, not_false_eq_true, eq_self, and_true, true_and, and_false, false_and, or_true, true_or, or_false, false_or, decide_true, decide_false, Bool.false_eq_true, Bool.true_eq_false, e7]
      · have ih' := ih (i + 1) (by omega) (by omega)
        have hct := fb_ct_le (sMk σ) i
        rw [fb_ct_succ] at ih'
        by_cases z : σ.2.1 15 i = nI 2
        · rw [show sMk σ i = true from decide_eq_true z] at ih'
          simp only [if_true] at ih'
          simp (disch := omega) only [↓bnd_i, ↓cal_s, ↓cal_n, ↓cal2_s, ↓cal2_n, cal_s, cal2_s, ↓reduceIte, fa_lit, m1_lit, m2_lit, m1_lt, m2_lt, m1_eq, m2_eq, m1_le, m2_le, le_m1, le_m2, lt_m1, lt_m2, m12, m21, m1_m1, n_lt, n_le, n_eq, lt_t, lt_f, le_t, le_f, eq_t, eq_f, n_cl, inb_ok, n_add, pk_mul, pk_sub, n_rem, n_div, n_dec, n_mx, n_mn, eq_m1, eq_m2, ss_same, ss_ne, ss_r, ss_l, sr_f, sr_l, sr_same, sr_ne, sw_f, sw_l, sw_at, sw_ne, pk_us, pk_un, bI_t, bI_f, not_true_eq_false, not_false_eq_true, eq_self, and_true, true_and, and_false, false_and, or_true, true_or, or_false, false_or, decide_true, decide_false, Bool.false_eq_true, Bool.true_eq_false, e7, z, f_X2_marks_28]
          exact ih'
        · rw [show sMk σ i = false from decide_eq_false z] at ih'
          simp only [Bool.false_eq_true, if_false, Nat.add_zero] at ih'
          simp (disch := omega) only [↓bnd_i, ↓cal_s, ↓cal_n, ↓cal2_s, ↓cal2_n, cal_s, cal2_s, ↓reduceIte, fa_lit, m1_lit, m2_lit, m1_lt, m2_lt, m1_eq, m2_eq, m1_le, m2_le, le_m1, le_m2, lt_m1, lt_m2, m12, m21, m1_m1, n_lt, n_le, n_eq, lt_t, lt_f, le_t, le_f, eq_t, eq_f, n_cl, inb_ok, n_add, pk_mul, pk_sub, n_rem, n_div, n_dec, n_mx, n_mn, eq_m1, eq_m2, ss_same, ss_ne, ss_r, ss_l, sr_f, sr_l, sr_same, sr_ne, sw_f, sw_l, sw_at, sw_ne, pk_us, pk_un, bI_t, bI_f, not_true_eq_false, not_false_eq_true, eq_self, and_true, true_and, and_false, false_and, or_true, true_or, or_false, false_or, decide_true, decide_false, Bool.false_eq_true, Bool.true_eq_false, e7, eq_false z, f_X2_marks_28, Nat.add_zero]
          exact ih'
  exact key F 0 (by omega) (by omega)
theorem t_count14 {F : Nat} (hF : 1000 < F) {σ τ : St} (C : Core σ τ) : f_X8_count_242 F F τ (nI 0) (nI 0) = some (nI (fb_ct (sMk σ) (md (nw τ)))) := by
  obtain ⟨b1, b2, b3, b4, b5, b6, b7, b8⟩ := NNb C.1
  have hmd := C.2.1.2.2.2
  have h2 : τ.2.1 19 2 = nI (nl (nw τ)) := C.1.1.2.2.1.1
  have k2 : ∀ n l, l ≤ nl (nw τ) → nl (nw τ) - l < n → f_X8_count_242 F n τ (nI (fb_ct (sMk σ) (sm (nw τ) l))) (nI l) = some (nI (fb_ct (sMk σ) (md (nw τ)))) := by
    intro n
    induction n with
    | zero => intro l _ h; omega
    | succ n ih =>
      intro l hl hn
      rw [f_X8_count_242]
      by_cases e : l = nl (nw τ)
      · rw [e, ← hmd]
        simp (disch := omega) only [↓bnd_i, ↓cal_s, ↓cal_n, ↓cal2_s, ↓cal2_n, cal_s, cal2_s, ↓reduceIte, fa_lit, m1_lit, m2_lit, m1_lt, m2_lt, m1_eq, m2_eq, m1_le, m2_le, le_m1, le_m2, lt_m1, lt_m2, m12, m21, m1_m1, n_lt, n_le, n_eq, lt_t, lt_f, le_t, le_f, eq_t, eq_f, n_cl, inb_ok, n_add, pk_mul, pk_sub, n_rem, n_div, n_dec, n_mx, n_mn, eq_m1, eq_m2, ss_same, ss_ne, ss_r, ss_l, sr_f, sr_l, sr_same, sr_ne, sw_f, sw_l, sw_at, sw_ne, pk_us, pk_un, bI_t, bI_f, not_true_eq_false, not_false_eq_true, eq_self, and_true, true_and, and_false, false_and, or_true, true_or, or_false, false_or, decide_true, decide_false, Bool.false_eq_true, Bool.true_eq_false, h2]
      · have hll : l < nl (nw τ) := by omega
        have ht := C.1.2.1.1 l hll
        have hf := fk_le C.1.2.1 hll
        have ih' := ih (l + 1) (by omega) (by omega)
        have hss := sm_succ (N := nw τ) l
        have hsm : sm (nw τ) (l + 1) ≤ md (nw τ) := by rw [hmd]; exact sm_mono (by omega)
        have k3 : ∀ m p, fk (nw τ) l < p → p ≤ tp (nw τ) l + 1 → tp (nw τ) l + 1 - p < m → f_X8_count_261 F (f_X8_count_242 F n) m τ (nI (fb_ct (sMk σ) (sm (nw τ) l + p - fk (nw τ) l - 1))) (nI l) (nI p) = some (nI (fb_ct (sMk σ) (md (nw τ)))) := by
          intro m
          induction m with
          | zero => intro p _ _ h; omega
          | succ m ihm =>
            intro p hp1 hp2 hm
            rw [f_X8_count_261]
            by_cases e3 : p = tp (nw τ) l + 1
            · rw [show sm (nw τ) l + p - fk (nw τ) l - 1 = sm (nw τ) (l + 1) by omega]
              simp (disch := omega) only [↓bnd_i, ↓cal_s, ↓cal_n, ↓cal2_s, ↓cal2_n, cal_s, cal2_s, ↓reduceIte, fa_lit, m1_lit, m2_lit, m1_lt, m2_lt, m1_eq, m2_eq, m1_le, m2_le, le_m1, le_m2, lt_m1, lt_m2, m12, m21, m1_m1, n_lt, n_le, n_eq, lt_t, lt_f, le_t, le_f, eq_t, eq_f, n_cl, inb_ok, n_add, pk_mul, pk_sub, n_rem, n_div, n_dec, n_mx, n_mn, eq_m1, eq_m2, ss_same, ss_ne, ss_r, ss_l, sr_f, sr_l, sr_same, sr_ne, sw_f, sw_l, sw_at, sw_ne, pk_us, pk_un, bI_t, bI_f, not_true_eq_false, not_false_eq_true, eq_self, and_true, true_and, and_false, false_and, or_true, true_or, or_false, false_or, decide_true, decide_false, Bool.false_eq_true, Bool.true_eq_false, ↓cal_w (t_placeOf (τ := τ) (show l < 8 by omega)), t_placeOf (τ := τ) (show l < 8 by omega), ht.1]
              exact ih'
            · have hr := ro_self (N := nw τ) hp1
              have jr := (j_rec C.1 C.2 hll (show 1 ≤ p by omega) (show p ≤ tp (nw τ) l by omega)).1
              obtain ⟨hrc, hs4, -⟩ := rc_in C.1 hll (show 1 ≤ p by omega) (show p ≤ tp (nw τ) l by omega)
              have r0 : τ.2.1 19 (1380 + 3 * (241 * l + p)) = nI (srt (nw τ) l p) := by
                have := hrc
                unfold rc at this
                rw [ow_self hp1] at this
                exact this
              have tr := t_recordAt (F := F) C.1.1 C.1.2.1 (by omega) hll (show p ≤ 240 by omega)
              rw [ow_self hp1] at tr
              rw [hr] at jr
              have ihm' := ihm (p + 1) (by omega) (by omega) (by omega)
              generalize hq : sm (nw τ) l + p - fk (nw τ) l - 1 = q at *
              have hq1 : sm (nw τ) l + (p + 1) - fk (nw τ) l - 1 = q + 1 := by omega
              rw [hq1, fb_ct_succ] at ihm'
              have hcq := fb_ct_le (sMk σ) q
              by_cases z : srt (nw τ) l p = 2
              · rw [show sMk σ q = true from decide_eq_true (by rw [jr, z])] at ihm'
                simp only [if_true] at ihm'
                simp (disch := omega) only [↓bnd_i, ↓cal_s, ↓cal_n, ↓cal2_s, ↓cal2_n, cal_s, cal2_s, ↓reduceIte, fa_lit, m1_lit, m2_lit, m1_lt, m2_lt, m1_eq, m2_eq, m1_le, m2_le, le_m1, le_m2, lt_m1, lt_m2, m12, m21, m1_m1, n_lt, n_le, n_eq, lt_t, lt_f, le_t, le_f, eq_t, eq_f, n_cl, inb_ok, n_add, pk_mul, pk_sub, n_rem, n_div, n_dec, n_mx, n_mn, eq_m1, eq_m2, ss_same, ss_ne, ss_r, ss_l, sr_f, sr_l, sr_same, sr_ne, sw_f, sw_l, sw_at, sw_ne, pk_us, pk_un, bI_t, bI_f, not_true_eq_false, not_false_eq_true, eq_self, and_true, true_and, and_false, false_and, or_true, true_or, or_false, false_or, decide_true, decide_false, Bool.false_eq_true, Bool.true_eq_false, ↓cal_w (t_placeOf (τ := τ) (show l < 8 by omega)), t_placeOf (τ := τ) (show l < 8 by omega), ↓cal_w (tr), tr, ht.1, r0, f_X8_count_290]
                exact ihm'
              · rw [show sMk σ q = false from decide_eq_false (by rw [jr, n_eq (by omega) (by omega)]; exact z)] at ihm'
                simp only [Bool.false_eq_true, if_false, Nat.add_zero] at ihm'
                simp (disch := omega) only [↓bnd_i, ↓cal_s, ↓cal_n, ↓cal2_s, ↓cal2_n, cal_s, cal2_s, ↓reduceIte, fa_lit, m1_lit, m2_lit, m1_lt, m2_lt, m1_eq, m2_eq, m1_le, m2_le, le_m1, le_m2, lt_m1, lt_m2, m12, m21, m1_m1, n_lt, n_le, n_eq, lt_t, lt_f, le_t, le_f, eq_t, eq_f, n_cl, inb_ok, n_add, pk_mul, pk_sub, n_rem, n_div, n_dec, n_mx, n_mn, eq_m1, eq_m2, ss_same, ss_ne, ss_r, ss_l, sr_f, sr_l, sr_same, sr_ne, sw_f, sw_l, sw_at, sw_ne, pk_us, pk_un, bI_t, bI_f, not_true_eq_false, not_false_eq_true, eq_self, and_true, true_and, and_false, false_and, or_true, true_or, or_false, false_or, decide_true, decide_false, Bool.false_eq_true, Bool.true_eq_false, ↓cal_w (t_placeOf (τ := τ) (show l < 8 by omega)), t_placeOf (τ := τ) (show l < 8 by omega), ↓cal_w (tr), tr, ht.1, r0, f_X8_count_290]
                exact ihm'
        have k4 := k3 F (fk (nw τ) l + 1) (by omega) (by omega) (by omega)
        rw [show sm (nw τ) l + (fk (nw τ) l + 1) - fk (nw τ) l - 1 = sm (nw τ) l by omega] at k4
        simp (disch := omega) only [↓bnd_i, ↓cal_s, ↓cal_n, ↓cal2_s, ↓cal2_n, cal_s, cal2_s, ↓reduceIte, fa_lit, m1_lit, m2_lit, m1_lt, m2_lt, m1_eq, m2_eq, m1_le, m2_le, le_m1, le_m2, lt_m1, lt_m2, m12, m21, m1_m1, n_lt, n_le, n_eq, lt_t, lt_f, le_t, le_f, eq_t, eq_f, n_cl, inb_ok, n_add, pk_mul, pk_sub, n_rem, n_div, n_dec, n_mx, n_mn, eq_m1, eq_m2, ss_same, ss_ne, ss_r, ss_l, sr_f, sr_l, sr_same, sr_ne, sw_f, sw_l, sw_at, sw_ne, pk_us, pk_un, bI_t, bI_f, not_true_eq_false, not_false_eq_true, eq_self, and_true, true_and, and_false, false_and, or_true, true_or, or_false, false_or, decide_true, decide_false, Bool.false_eq_true, Bool.true_eq_false, ↓cal_w (t_forkOf C.1.2.1 hll b6), t_forkOf C.1.2.1 hll b6, h2]
        exact k4
  exact k2 F 0 (by omega) (by omega)
def poF (N : Nat → Int32) : Nat → Int32
  | 0 => nI 0
  | l + 1 => poF N l ||| (nI 1 <<< (nI (pr N (l + 1)) &&& nI 31))
theorem d_parentOnes {F : Nat} (hF : 1000 < F) {σ : St} {N : Nat → Int32} (h : NN N) (j : JJ σ N) : f_X2_parentOnes F σ = some (poF N (nl N - 1)) := by
  obtain ⟨b1, b2, b3, b4, b5, b6, b7, b8⟩ := NNb h
  obtain ⟨e4, e5, e6, e7, e8⟩ := JJf h j
  have key : ∀ n l, l + 1 ≤ nl N → nl N - (l + 1) < n → f_X2_parentOnes_4 F n σ (poF N l) (nI (l + 1)) = some (poF N (nl N - 1)) := by
    intro n
    induction n with
    | zero => intro i _ h; omega
    | succ n ih =>
      intro l hl hn
      rw [f_X2_parentOnes_4]
      by_cases e : l + 1 = nl N
      · rw [show nl N - 1 = l by omega]
        simp (disch := omega) only [↓bnd_i, ↓cal_s, ↓cal_n, ↓cal2_s, ↓cal2_n, cal_s, cal2_s, ↓reduceIte, fa_lit, m1_lit, m2_lit, m1_lt, m2_lt, m1_eq, m2_eq, m1_le, m2_le, le_m1, le_m2, lt_m1, lt_m2, m12, m21, m1_m1, n_lt, n_le, n_eq, lt_t, lt_f, le_t, le_f, eq_t, eq_f, n_cl, inb_ok, n_add, pk_mul, pk_sub, n_rem, n_div, n_dec, n_mx, n_mn, eq_m1, eq_m2, ss_same, ss_ne, ss_r, ss_l, sr_f, sr_l, sr_same, sr_ne, sw_f, sw_l, sw_at, sw_ne, pk_us, pk_un, bI_t, bI_f, not_true_eq_false, not_false_eq_true, eq_self, and_true, true_and, and_false, false_and, or_true, true_or, or_false, false_or, decide_true, decide_false, Bool.false_eq_true, Bool.true_eq_false, e6]
      · have ih' := ih (l + 1) (by omega) (by omega)
        have jp := j_par j (l := l + 1) (by omega) (by omega)
        rw [poF] at ih'
        simp (disch := omega) only [↓bnd_i, ↓cal_s, ↓cal_n, ↓cal2_s, ↓cal2_n, cal_s, cal2_s, ↓reduceIte, fa_lit, m1_lit, m2_lit, m1_lt, m2_lt, m1_eq, m2_eq, m1_le, m2_le, le_m1, le_m2, lt_m1, lt_m2, m12, m21, m1_m1, n_lt, n_le, n_eq, lt_t, lt_f, le_t, le_f, eq_t, eq_f, n_cl, inb_ok, n_add, pk_mul, pk_sub, n_rem, n_div, n_dec, n_mx, n_mn, eq_m1, eq_m2, ss_same, ss_ne, ss_r, ss_l, sr_f, sr_l, sr_same, sr_ne, sw_f, sw_l, sw_at, sw_ne, pk_us, pk_un, bI_t, bI_f, not_true_eq_false, not_false_eq_true, eq_self, and_true, true_and, and_false, false_and, or_true, true_or, or_false, false_or, decide_true, decide_false, Bool.false_eq_true, Bool.true_eq_false, e6, jp]
        exact ih'
  exact key F 0 (by omega) (by omega)
theorem t_count15 {F : Nat} (hF : 1000 < F) {τ : St} (h : NN (nw τ)) : f_X8_count_306 F F τ (nI 0) (nI 1) = some (poF (nw τ) (nl (nw τ) - 1)) := by
  obtain ⟨b1, b2, b3, b4, b5, b6, b7, b8⟩ := NNb h
  have h2 : τ.2.1 19 2 = nI (nl (nw τ)) := h.1.2.2.1.1
  have key : ∀ n l, l + 1 ≤ nl (nw τ) → nl (nw τ) - (l + 1) < n → f_X8_count_306 F n τ (poF (nw τ) l) (nI (l + 1)) = some (poF (nw τ) (nl (nw τ) - 1)) := by
    intro n
    induction n with
    | zero => intro i _ h; omega
    | succ n ih =>
      intro l hl hn
      rw [f_X8_count_306]
      by_cases e : l + 1 = nl (nw τ)
      · rw [show nl (nw τ) - 1 = l by omega]
        simp (disch := omega) only [↓bnd_i, ↓cal_s, ↓cal_n, ↓cal2_s, ↓cal2_n, cal_s, cal2_s, ↓reduceIte, fa_lit, m1_lit, m2_lit, m1_lt, m2_lt, m1_eq, m2_eq, m1_le, m2_le, le_m1, le_m2, lt_m1, lt_m2, m12, m21, m1_m1, n_lt, n_le, n_eq, lt_t, lt_f, le_t, le_f, eq_t, eq_f, n_cl, inb_ok, n_add, pk_mul, pk_sub, n_rem, n_div, n_dec, n_mx, n_mn, eq_m1, eq_m2, ss_same, ss_ne, ss_r, ss_l, sr_f, sr_l, sr_same, sr_ne, sw_f, sw_l, sw_at, sw_ne, pk_us, pk_un, bI_t, bI_f, not_true_eq_false, not_false_eq_true, eq_self, and_true, true_and, and_false, false_and, or_true, true_or, or_false, false_or, decide_true, decide_false, Bool.false_eq_true, Bool.true_eq_false, h2]
      · have ih' := ih (l + 1) (by omega) (by omega)
        have jp := t_parentOf (F := F) (τ := τ) (l := l + 1) (by omega)
        rw [(h.2.1.2.1 (l + 1) (by omega) (by omega)).1] at jp
        rw [poF] at ih'
        simp (disch := omega) only [↓bnd_i, ↓cal_s, ↓cal_n, ↓cal2_s, ↓cal2_n, cal_s, cal2_s, ↓reduceIte, fa_lit, m1_lit, m2_lit, m1_lt, m2_lt, m1_eq, m2_eq, m1_le, m2_le, le_m1, le_m2, lt_m1, lt_m2, m12, m21, m1_m1, n_lt, n_le, n_eq, lt_t, lt_f, le_t, le_f, eq_t, eq_f, n_cl, inb_ok, n_add, pk_mul, pk_sub, n_rem, n_div, n_dec, n_mx, n_mn, eq_m1, eq_m2, ss_same, ss_ne, ss_r, ss_l, sr_f, sr_l, sr_same, sr_ne, sw_f, sw_l, sw_at, sw_ne, pk_us, pk_un, bI_t, bI_f, not_true_eq_false, not_false_eq_true, eq_self, and_true, true_and, and_false, false_and, or_true, true_or, or_false, false_or, decide_true, decide_false, Bool.false_eq_true, Bool.true_eq_false, ↓cal_w (jp), jp, h2]
        exact ih'
  exact key F 0 (by omega) (by omega)
theorem bc_v : ∀ k, k < 8 → ∀ (F : Nat) (σ : St), f_J6_bitCount_0f7a4 F σ (nI k) = some (nI (k % 2 + k / 2 % 2 + k / 4)) := by
  intro k hk F σ
  rcases (show k = 0 ∨ k = 1 ∨ k = 2 ∨ k = 3 ∨ k = 4 ∨ k = 5 ∨ k = 6 ∨ k = 7 by omega) with rfl | rfl | rfl | rfl | rfl | rfl | rfl | rfl <;> rfl
theorem t_count10 {F : Nat} {σ τ : St} {hl : Nat → Bool} (h0 : σ.1 0 = nI (bs hl 3)) (hs : ∀ s, s < 3 → τ.2.1 22 s = bI (hl s)) : ∃ v, f_J6_bitCount_0f7a4 F σ (σ.1 0) = some v ∧ (if (τ.2.1 22 0) = nI 0 then (f_X8_count_189 F τ (nI 0)) else (f_X8_count_189 F τ (nI 1))) = some v := by
  refine ⟨_, by rw [h0]; exact bc_v _ (bs_lt 3) F σ, ?_⟩
  have q0 := hs 0 (by omega)
  have q1 := hs 1 (by omega)
  have q2 := hs 2 (by omega)
  simp only [bs]
  unfold f_X8_count_189 f_X8_count_203
  cases d0 : hl 0 <;> cases d1 : hl 1 <;> cases d2 : hl 2 <;> rw [d0] at q0 <;> rw [d1] at q1 <;> rw [d2] at q2 <;> rw [q0, q1, q2] <;> decide +kernel
theorem q_count {F : Nat} (hF : 1000 < F) {σ τ : St} (C : Core σ τ) (h1 : σ.1 1 = τ.1 1) (h3 : σ.1 3 = nw τ 6) {hl : Nat → Bool} (h0 : σ.1 0 = nI (bs hl 3)) (hs : ∀ s, s < 3 → τ.2.1 22 s = bI (hl s)) (x : Int32) : Qy (f_X7_count F σ x) (f_X8_count F τ x) := by
  obtain ⟨b1, b2, b3, b4, b5, b6, b7, b8⟩ := NNb C.1
  obtain ⟨e4, e5, e6, e7, e8⟩ := JJf C.1 C.2
  obtain ⟨⟨a0, -⟩, ⟨a1, -⟩, ⟨a2, -⟩, a3, ⟨a4, -⟩, ⟨a5, -⟩, -⟩ := C.1.1
  have a0 : τ.2.1 19 0 = nI (pg (nw τ)) := a0
  have a1 : τ.2.1 19 1 = nI (wd (nw τ)) := a1
  have a2 : τ.2.1 19 2 = nI (nl (nw τ)) := a2
  have a3 : τ.2.1 19 3 = nI (nl (nw τ) - 1) := a3
  have a4 : τ.2.1 19 4 = nI (md (nw τ)) := a4
  have a5 : τ.2.1 19 5 = nI (nc (nw τ)) := a5
  have h3' : σ.1 3 = τ.2.1 19 6 := h3
  unfold f_X7_count f_X8_count
  rcases n_ex x with hx | ⟨k, hk, rfl⟩
  · have hne : ∀ k, k < 2 ^ 31 → (x = nI k) = False := fun k hk => eq_false (neg_ne hx hk)
    simp (disch := omega) only [↓bnd_i, ↓cal_s, ↓cal_n, ↓cal2_s, ↓cal2_n, cal_s, cal2_s, ↓reduceIte, fa_lit, m1_lit, m2_lit, m1_lt, m2_lt, m1_eq, m2_eq, m1_le, m2_le, le_m1, le_m2, lt_m1, lt_m2, m12, m21, m1_m1, n_lt, n_le, n_eq, lt_t, lt_f, le_t, le_f, eq_t, eq_f, n_cl, inb_ok, n_add, pk_mul, pk_sub, n_rem, n_div, n_dec, n_mx, n_mn, eq_m1, eq_m2, ss_same, ss_ne, ss_r, ss_l, sr_f, sr_l, sr_same, sr_ne, sw_f, sw_l, sw_at, sw_ne, pk_us, pk_un, bI_t, bI_f, not_true_eq_false, not_false_eq_true, eq_self, and_true, true_and, and_false, false_and, or_true, true_or, or_false, false_or, decide_true, decide_false, Bool.false_eq_true, Bool.true_eq_false, hne]
    exact Qy.mk
  · by_cases big : 16 ≤ k
    · simp (disch := omega) only [↓bnd_i, ↓cal_s, ↓cal_n, ↓cal2_s, ↓cal2_n, cal_s, cal2_s, ↓reduceIte, fa_lit, m1_lit, m2_lit, m1_lt, m2_lt, m1_eq, m2_eq, m1_le, m2_le, le_m1, le_m2, lt_m1, lt_m2, m12, m21, m1_m1, n_lt, n_le, n_eq, lt_t, lt_f, le_t, le_f, eq_t, eq_f, n_cl, inb_ok, n_add, pk_mul, pk_sub, n_rem, n_div, n_dec, n_mx, n_mn, eq_m1, eq_m2, ss_same, ss_ne, ss_r, ss_l, sr_f, sr_l, sr_same, sr_ne, sw_f, sw_l, sw_at, sw_ne, pk_us, pk_un, bI_t, bI_f, not_true_eq_false, not_false_eq_true, eq_self, and_true, true_and, and_false, false_and, or_true, true_or, or_false, false_or, decide_true, decide_false, Bool.false_eq_true, Bool.true_eq_false]
      exact Qy.mk
    · rcases (show k = 0 ∨ k = 1 ∨ k = 2 ∨ k = 3 ∨ k = 4 ∨ k = 5 ∨ k = 6 ∨ k = 7 ∨ k = 8 ∨ k = 9 ∨ k = 10 ∨ k = 11 ∨ k = 12 ∨ k = 13 ∨ k = 14 ∨ k = 15 by omega) with rfl | rfl | rfl | rfl | rfl | rfl | rfl | rfl | rfl | rfl | rfl | rfl | rfl | rfl | rfl | rfl
      · simp (disch := omega) only [↓bnd_i, ↓cal_s, ↓cal_n, ↓cal2_s, ↓cal2_n, cal_s, cal2_s, ↓reduceIte, fa_lit, m1_lit, m2_lit, m1_lt, m2_lt, m1_eq, m2_eq, m1_le, m2_le, le_m1, le_m2, lt_m1, lt_m2, m12, m21, m1_m1, n_lt, n_le, n_eq, lt_t, lt_f, le_t, le_f, eq_t, eq_f, n_cl, inb_ok, n_add, pk_mul, pk_sub, n_rem, n_div, n_dec, n_mx, n_mn, eq_m1, eq_m2, ss_same, ss_ne, ss_r, ss_l, sr_f, sr_l, sr_same, sr_ne, sw_f, sw_l, sw_at, sw_ne, pk_us, pk_un, bI_t, bI_f, not_true_eq_false, not_false_eq_true, eq_self, and_true, true_and, and_false, false_and, or_true, true_or, or_false, false_or, decide_true, decide_false, Bool.false_eq_true, Bool.true_eq_false, e4, a0]
        exact Qy.mk
      · simp (disch := omega) only [↓bnd_i, ↓cal_s, ↓cal_n, ↓cal2_s, ↓cal2_n, cal_s, cal2_s, ↓reduceIte, fa_lit, m1_lit, m2_lit, m1_lt, m2_lt, m1_eq, m2_eq, m1_le, m2_le, le_m1, le_m2, lt_m1, lt_m2, m12, m21, m1_m1, n_lt, n_le, n_eq, lt_t, lt_f, le_t, le_f, eq_t, eq_f, n_cl, inb_ok, n_add, pk_mul, pk_sub, n_rem, n_div, n_dec, n_mx, n_mn, eq_m1, eq_m2, ss_same, ss_ne, ss_r, ss_l, sr_f, sr_l, sr_same, sr_ne, sw_f, sw_l, sw_at, sw_ne, pk_us, pk_un, bI_t, bI_f, not_true_eq_false, not_false_eq_true, eq_self, and_true, true_and, and_false, false_and, or_true, true_or, or_false, false_or, decide_true, decide_false, Bool.false_eq_true, Bool.true_eq_false, e5, a1]
        exact Qy.mk
      · simp (disch := omega) only [↓bnd_i, ↓cal_s, ↓cal_n, ↓cal2_s, ↓cal2_n, cal_s, cal2_s, ↓reduceIte, fa_lit, m1_lit, m2_lit, m1_lt, m2_lt, m1_eq, m2_eq, m1_le, m2_le, le_m1, le_m2, lt_m1, lt_m2, m12, m21, m1_m1, n_lt, n_le, n_eq, lt_t, lt_f, le_t, le_f, eq_t, eq_f, n_cl, inb_ok, n_add, pk_mul, pk_sub, n_rem, n_div, n_dec, n_mx, n_mn, eq_m1, eq_m2, ss_same, ss_ne, ss_r, ss_l, sr_f, sr_l, sr_same, sr_ne, sw_f, sw_l, sw_at, sw_ne, pk_us, pk_un, bI_t, bI_f, not_true_eq_false, not_false_eq_true, eq_self, and_true, true_and, and_false, false_and, or_true, true_or, or_false, false_or, decide_true, decide_false, Bool.false_eq_true, Bool.true_eq_false, e6, a2]
        exact Qy.mk
      · simp (disch := omega) only [↓bnd_i, ↓cal_s, ↓cal_n, ↓cal2_s, ↓cal2_n, cal_s, cal2_s, ↓reduceIte, fa_lit, m1_lit, m2_lit, m1_lt, m2_lt, m1_eq, m2_eq, m1_le, m2_le, le_m1, le_m2, lt_m1, lt_m2, m12, m21, m1_m1, n_lt, n_le, n_eq, lt_t, lt_f, le_t, le_f, eq_t, eq_f, n_cl, inb_ok, n_add, pk_mul, pk_sub, n_rem, n_div, n_dec, n_mx, n_mn, eq_m1, eq_m2, ss_same, ss_ne, ss_r, ss_l, sr_f, sr_l, sr_same, sr_ne, sw_f, sw_l, sw_at, sw_ne, pk_us, pk_un, bI_t, bI_f, not_true_eq_false, not_false_eq_true, eq_self, and_true, true_and, and_false, false_and, or_true, true_or, or_false, false_or, decide_true, decide_false, Bool.false_eq_true, Bool.true_eq_false, ↓cal_w (d_going C.1 C.2), d_going C.1 C.2, a3]
        exact Qy.mk
      · have w := t_placeOf (F := F) (τ := τ) (l := nl (nw τ) - 1) (by omega)
        rw [(C.1.2.1.1 (nl (nw τ) - 1) (by omega)).1] at w
        simp (disch := omega) only [↓bnd_i, ↓cal_s, ↓cal_n, ↓cal2_s, ↓cal2_n, cal_s, cal2_s, ↓reduceIte, fa_lit, m1_lit, m2_lit, m1_lt, m2_lt, m1_eq, m2_eq, m1_le, m2_le, le_m1, le_m2, lt_m1, lt_m2, m12, m21, m1_m1, n_lt, n_le, n_eq, lt_t, lt_f, le_t, le_f, eq_t, eq_f, n_cl, inb_ok, n_add, pk_mul, pk_sub, n_rem, n_div, n_dec, n_mx, n_mn, eq_m1, eq_m2, ss_same, ss_ne, ss_r, ss_l, sr_f, sr_l, sr_same, sr_ne, sw_f, sw_l, sw_at, sw_ne, pk_us, pk_un, bI_t, bI_f, not_true_eq_false, not_false_eq_true, eq_self, and_true, true_and, and_false, false_and, or_true, true_or, or_false, false_or, decide_true, decide_false, Bool.false_eq_true, Bool.true_eq_false, ↓cal_w (d_now C.1.1 C.2.1), d_now C.1.1 C.2.1, ↓cal_w (w), w, a3]
        exact Qy.mk
      · simp (disch := omega) only [↓bnd_i, ↓cal_s, ↓cal_n, ↓cal2_s, ↓cal2_n, cal_s, cal2_s, ↓reduceIte, fa_lit, m1_lit, m2_lit, m1_lt, m2_lt, m1_eq, m2_eq, m1_le, m2_le, le_m1, le_m2, lt_m1, lt_m2, m12, m21, m1_m1, n_lt, n_le, n_eq, lt_t, lt_f, le_t, le_f, eq_t, eq_f, n_cl, inb_ok, n_add, pk_mul, pk_sub, n_rem, n_div, n_dec, n_mx, n_mn, eq_m1, eq_m2, ss_same, ss_ne, ss_r, ss_l, sr_f, sr_l, sr_same, sr_ne, sw_f, sw_l, sw_at, sw_ne, pk_us, pk_un, bI_t, bI_f, not_true_eq_false, not_false_eq_true, eq_self, and_true, true_and, and_false, false_and, or_true, true_or, or_false, false_or, decide_true, decide_false, Bool.false_eq_true, Bool.true_eq_false, e7, a4]
        exact Qy.mk
      · simp (disch := omega) only [↓bnd_i, ↓cal_s, ↓cal_n, ↓cal2_s, ↓cal2_n, cal_s, cal2_s, ↓reduceIte, fa_lit, m1_lit, m2_lit, m1_lt, m2_lt, m1_eq, m2_eq, m1_le, m2_le, le_m1, le_m2, lt_m1, lt_m2, m12, m21, m1_m1, n_lt, n_le, n_eq, lt_t, lt_f, le_t, le_f, eq_t, eq_f, n_cl, inb_ok, n_add, pk_mul, pk_sub, n_rem, n_div, n_dec, n_mx, n_mn, eq_m1, eq_m2, ss_same, ss_ne, ss_r, ss_l, sr_f, sr_l, sr_same, sr_ne, sw_f, sw_l, sw_at, sw_ne, pk_us, pk_un, bI_t, bI_f, not_true_eq_false, not_false_eq_true, eq_self, and_true, true_and, and_false, false_and, or_true, true_or, or_false, false_or, decide_true, decide_false, Bool.false_eq_true, Bool.true_eq_false, e8, a5]
        exact Qy.mk
      · have w1 := d_fitOnes (F := F) (by omega) C.1 C.2
        have w2 := t_copyBits (F := F) (by omega) C.1 (w := 0) (f := ft (nw τ)) (Or.inl ⟨rfl, fun _ => rfl⟩)
        simp (disch := omega) only [↓bnd_i, ↓cal_s, ↓cal_n, ↓cal2_s, ↓cal2_n, cal_s, cal2_s, ↓reduceIte, fa_lit, m1_lit, m2_lit, m1_lt, m2_lt, m1_eq, m2_eq, m1_le, m2_le, le_m1, le_m2, lt_m1, lt_m2, m12, m21, m1_m1, n_lt, n_le, n_eq, lt_t, lt_f, le_t, le_f, eq_t, eq_f, n_cl, inb_ok, n_add, pk_mul, pk_sub, n_rem, n_div, n_dec, n_mx, n_mn, eq_m1, eq_m2, ss_same, ss_ne, ss_r, ss_l, sr_f, sr_l, sr_same, sr_ne, sw_f, sw_l, sw_at, sw_ne, pk_us, pk_un, bI_t, bI_f, not_true_eq_false, not_false_eq_true, eq_self, and_true, true_and, and_false, false_and, or_true, true_or, or_false, false_or, decide_true, decide_false, Bool.false_eq_true, Bool.true_eq_false, ↓cal_w (w1), w1, ↓cal_w (w2), w2, e4]
        exact Qy.mk
      · simp (disch := omega) only [↓bnd_i, ↓cal_s, ↓cal_n, ↓cal2_s, ↓cal2_n, cal_s, cal2_s, ↓reduceIte, fa_lit, m1_lit, m2_lit, m1_lt, m2_lt, m1_eq, m2_eq, m1_le, m2_le, le_m1, le_m2, lt_m1, lt_m2, m12, m21, m1_m1, n_lt, n_le, n_eq, lt_t, lt_f, le_t, le_f, eq_t, eq_f, n_cl, inb_ok, n_add, pk_mul, pk_sub, n_rem, n_div, n_dec, n_mx, n_mn, eq_m1, eq_m2, ss_same, ss_ne, ss_r, ss_l, sr_f, sr_l, sr_same, sr_ne, sw_f, sw_l, sw_at, sw_ne, pk_us, pk_un, bI_t, bI_f, not_true_eq_false, not_false_eq_true, eq_self, and_true, true_and, and_false, false_and, or_true, true_or, or_false, false_or, decide_true, decide_false, Bool.false_eq_true, Bool.true_eq_false, h1]
        exact Qy.mk
      · have w1 := d_keptPieces (F := F) (by omega) C.1 C.2
        have w2 := t_count9 (F := F) hF C.1
        simp (disch := omega) only [↓bnd_i, ↓cal_s, ↓cal_n, ↓cal2_s, ↓cal2_n, cal_s, cal2_s, ↓reduceIte, fa_lit, m1_lit, m2_lit, m1_lt, m2_lt, m1_eq, m2_eq, m1_le, m2_le, le_m1, le_m2, lt_m1, lt_m2, m12, m21, m1_m1, n_lt, n_le, n_eq, lt_t, lt_f, le_t, le_f, eq_t, eq_f, n_cl, inb_ok, n_add, pk_mul, pk_sub, n_rem, n_div, n_dec, n_mx, n_mn, eq_m1, eq_m2, ss_same, ss_ne, ss_r, ss_l, sr_f, sr_l, sr_same, sr_ne, sw_f, sw_l, sw_at, sw_ne, pk_us, pk_un, bI_t, bI_f, not_true_eq_false, not_false_eq_true, eq_self, and_true, true_and, and_false, false_and, or_true, true_or, or_false, false_or, decide_true, decide_false, Bool.false_eq_true, Bool.true_eq_false, ↓cal_w (w1), w1, ↓cal_w (w2), w2]
        exact Qy.mk
      · obtain ⟨v, v1, v2⟩ := t_count10 (F := F) h0 hs
        simp (disch := omega) only [↓bnd_i, ↓cal_s, ↓cal_n, ↓cal2_s, ↓cal2_n, cal_s, cal2_s, ↓reduceIte, fa_lit, m1_lit, m2_lit, m1_lt, m2_lt, m1_eq, m2_eq, m1_le, m2_le, le_m1, le_m2, lt_m1, lt_m2, m12, m21, m1_m1, n_lt, n_le, n_eq, lt_t, lt_f, le_t, le_f, eq_t, eq_f, n_cl, inb_ok, n_add, pk_mul, pk_sub, n_rem, n_div, n_dec, n_mx, n_mn, eq_m1, eq_m2, ss_same, ss_ne, ss_r, ss_l, sr_f, sr_l, sr_same, sr_ne, sw_f, sw_l, sw_at, sw_ne, pk_us, pk_un, bI_t, bI_f, not_true_eq_false, not_false_eq_true, eq_self, and_true, true_and, and_false, false_and, or_true, true_or, or_false, false_or, decide_true, decide_false, Bool.false_eq_true, Bool.true_eq_false, ↓cal_w (v1), v1]
        exact ⟨v, rfl, v2⟩
      · simp (disch := omega) only [↓bnd_i, ↓cal_s, ↓cal_n, ↓cal2_s, ↓cal2_n, cal_s, cal2_s, ↓reduceIte, fa_lit, m1_lit, m2_lit, m1_lt, m2_lt, m1_eq, m2_eq, m1_le, m2_le, le_m1, le_m2, lt_m1, lt_m2, m12, m21, m1_m1, n_lt, n_le, n_eq, lt_t, lt_f, le_t, le_f, eq_t, eq_f, n_cl, inb_ok, n_add, pk_mul, pk_sub, n_rem, n_div, n_dec, n_mx, n_mn, eq_m1, eq_m2, ss_same, ss_ne, ss_r, ss_l, sr_f, sr_l, sr_same, sr_ne, sw_f, sw_l, sw_at, sw_ne, pk_us, pk_un, bI_t, bI_f, not_true_eq_false, not_false_eq_true, eq_self, and_true, true_and, and_false, false_and, or_true, true_or, or_false, false_or, decide_true, decide_false, Bool.false_eq_true, Bool.true_eq_false, h3']
        exact Qy.mk
      · have w2 := t_copyBits (F := F) (by omega) C.1 (w := 2) (f := co (nw τ)) (Or.inr (Or.inl ⟨rfl, fun _ => rfl⟩))
        simp (disch := omega) only [↓bnd_i, ↓cal_s, ↓cal_n, ↓cal2_s, ↓cal2_n, cal_s, cal2_s, ↓reduceIte, fa_lit, m1_lit, m2_lit, m1_lt, m2_lt, m1_eq, m2_eq, m1_le, m2_le, le_m1, le_m2, lt_m1, lt_m2, m12, m21, m1_m1, n_lt, n_le, n_eq, lt_t, lt_f, le_t, le_f, eq_t, eq_f, n_cl, inb_ok, n_add, pk_mul, pk_sub, n_rem, n_div, n_dec, n_mx, n_mn, eq_m1, eq_m2, ss_same, ss_ne, ss_r, ss_l, sr_f, sr_l, sr_same, sr_ne, sw_f, sw_l, sw_at, sw_ne, pk_us, pk_un, bI_t, bI_f, not_true_eq_false, not_false_eq_true, eq_self, and_true, true_and, and_false, false_and, or_true, true_or, or_false, false_or, decide_true, decide_false, Bool.false_eq_true, Bool.true_eq_false, ↓cal_w (w2), w2, C.2.2.2.1]
        exact Qy.mk
      · have w2 := t_copyBits (F := F) (by omega) C.1 (w := 3) (f := cd (nw τ)) (Or.inr (Or.inr ⟨rfl, fun _ => rfl⟩))
        simp (disch := omega) only [↓bnd_i, ↓cal_s, ↓cal_n, ↓cal2_s, ↓cal2_n, cal_s, cal2_s, ↓reduceIte, fa_lit, m1_lit, m2_lit, m1_lt, m2_lt, m1_eq, m2_eq, m1_le, m2_le, le_m1, le_m2, lt_m1, lt_m2, m12, m21, m1_m1, n_lt, n_le, n_eq, lt_t, lt_f, le_t, le_f, eq_t, eq_f, n_cl, inb_ok, n_add, pk_mul, pk_sub, n_rem, n_div, n_dec, n_mx, n_mn, eq_m1, eq_m2, ss_same, ss_ne, ss_r, ss_l, sr_f, sr_l, sr_same, sr_ne, sw_f, sw_l, sw_at, sw_ne, pk_us, pk_un, bI_t, bI_f, not_true_eq_false, not_false_eq_true, eq_self, and_true, true_and, and_false, false_and, or_true, true_or, or_false, false_or, decide_true, decide_false, Bool.false_eq_true, Bool.true_eq_false, ↓cal_w (w2), w2, C.2.2.2.2.1]
        exact Qy.mk
      · have w1 := d_marks (F := F) hF C.1 C.2
        have w2 := t_count14 (F := F) hF C
        simp (disch := omega) only [↓bnd_i, ↓cal_s, ↓cal_n, ↓cal2_s, ↓cal2_n, cal_s, cal2_s, ↓reduceIte, fa_lit, m1_lit, m2_lit, m1_lt, m2_lt, m1_eq, m2_eq, m1_le, m2_le, le_m1, le_m2, lt_m1, lt_m2, m12, m21, m1_m1, n_lt, n_le, n_eq, lt_t, lt_f, le_t, le_f, eq_t, eq_f, n_cl, inb_ok, n_add, pk_mul, pk_sub, n_rem, n_div, n_dec, n_mx, n_mn, eq_m1, eq_m2, ss_same, ss_ne, ss_r, ss_l, sr_f, sr_l, sr_same, sr_ne, sw_f, sw_l, sw_at, sw_ne, pk_us, pk_un, bI_t, bI_f, not_true_eq_false, not_false_eq_true, eq_self, and_true, true_and, and_false, false_and, or_true, true_or, or_false, false_or, decide_true, decide_false, Bool.false_eq_true, Bool.true_eq_false, ↓cal_w (w1), w1, ↓cal_w (w2), w2]
        exact Qy.mk
      · have w1 := d_parentOnes (F := F) hF C.1 C.2
        have w2 := t_count15 (F := F) hF C.1
        simp (disch := omega) only [↓bnd_i, ↓cal_s, ↓cal_n, ↓cal2_s, ↓cal2_n, cal_s, cal2_s, ↓reduceIte, fa_lit, m1_lit, m2_lit, m1_lt, m2_lt, m1_eq, m2_eq, m1_le, m2_le, le_m1, le_m2, lt_m1, lt_m2, m12, m21, m1_m1, n_lt, n_le, n_eq, lt_t, lt_f, le_t, le_f, eq_t, eq_f, n_cl, inb_ok, n_add, pk_mul, pk_sub, n_rem, n_div, n_dec, n_mx, n_mn, eq_m1, eq_m2, ss_same, ss_ne, ss_r, ss_l, sr_f, sr_l, sr_same, sr_ne, sw_f, sw_l, sw_at, sw_ne, pk_us, pk_un, bI_t, bI_f, not_true_eq_false, not_false_eq_true, eq_self, and_true, true_and, and_false, false_and, or_true, true_or, or_false, false_or, decide_true, decide_false, Bool.false_eq_true, Bool.true_eq_false, ↓cal_w (w1), w1, ↓cal_w (w2), w2]
        exact Qy.mk
