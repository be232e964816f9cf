/-! PURE: a record comes, the desk's side -/
theorem full_q {t w : Nat} (hw : 1 ≤ w) (h : (t + 1) % w = 0) : (t / w + 1) * w = t + 1 ∧ t / w * w ≤ t := by
  have h1 := Nat.div_add_mod (t + 1) w
  have h2 := Nat.div_add_mod t w
  have h3 := Nat.mod_lt t (show 0 < w by omega)
  have e : (t + 1) / w = t / w + 1 := by
    have a1 : w * ((t + 1) / w) = t + 1 := by omega
    have a2 : w * (t / w) < w * ((t + 1) / w) := by omega
    have a3 := Nat.lt_of_mul_lt_mul_left a2
    have a4 : w * ((t + 1) / w) < w * (t / w + 2) := by rw [Nat.mul_add]; omega
    have a5 := Nat.lt_of_mul_lt_mul_left a4
    omega
  rw [← e, Nat.mul_comm, Nat.mul_comm (t / w)]
  omega
theorem JJ_cm {σ σ' : St} {N : Nat → Int32} (h : NN N) (j : JJ σ N) (hr : rm N) {s : Nat} (hs : s < 4) {b v : Int32} (f7 : σ'.1 7 = nI (md N + 1)) (ff : ∀ k, k = 4 ∨ k = 5 ∨ k = 6 ∨ k = 8 ∨ k = 9 ∨ k = 10 → σ'.1 k = σ.1 k) (r13 : σ'.2.1 13 = upd (σ.2.1 13) (nl N - 1) (nI (tp N (nl N - 1) + 1))) (r15 : σ'.2.1 15 = upd (σ.2.1 15) (md N) (nI s)) (r16 : σ'.2.1 16 = upd (σ.2.1 16) (md N) b) (r17 : σ'.2.1 17 = upd (σ.2.1 17) (md N) v) (r18 : σ'.2.1 18 = if (tp N (nl N - 1) + 1) % wd N = 0 then upd (σ.2.1 18) ((nl N - 1) * 120 + tp N (nl N - 1) / wd N) (nI 1) else σ.2.1 18) (rr : ∀ r, r = 11 ∨ r = 12 ∨ r = 14 ∨ r = 19 ∨ r = 20 ∨ r = 21 ∨ r = 22 ∨ r = 23 ∨ r = 24 → σ'.2.1 r = σ.2.1 r) : JJ σ' (cmN N (nI s) b v) := by
  obtain ⟨b1, b2, b3, b4, b5, b6, b7, b8⟩ := NNb h
  obtain ⟨e4, e5, e6, e7, e8⟩ := JJf h j
  have hd := div120 (p := tp N (nl N - 1) + 1) (w := wd N) (by omega) b3 (by omega)
  rw [Nat.add_sub_cancel] at hd
  have hq := Nat.zero_le (tp N (nl N - 1) / wd N)
  obtain ⟨⟨⟨a0, a1, a2, a3, a4⟩, al, ap, am⟩, ⟨ar, ac, as, aq⟩, ⟨ao, ad, ax⟩⟩ := j
  have hls : ∀ l, l < nl N → sm N l + (tp N l - fk N l) ≤ sm N (nl N) := by
    have mono : ∀ d l, sm N l ≤ sm N (l + d) := by
      intro d
      induction d with
      | zero => intro l; exact Nat.le_refl _
      | succ d ih => intro l; have := ih l; have e : sm N (l + (d + 1)) = sm N (l + d) + (tp N (l + d) - fk N (l + d)) := rfl; omega
    intro l hl
    have := mono (nl N - (l + 1)) (l + 1)
    rw [show l + 1 + (nl N - (l + 1)) = nl N by omega] at this
    exact this
  have hlast : sm N (nl N) = sm N (nl N - 1) + (tp N (nl N - 1) - fk N (nl N - 1)) := by
    obtain ⟨l, hl⟩ : ∃ l, nl N = l + 1 := ⟨nl N - 1, by omega⟩
    rw [hl]; rfl
  have hft : fk N (nl N - 1) ≤ tp N (nl N - 1) := fk_le h.2.1 (by omega)
  refine ⟨⟨⟨?_, ?_, ?_, ?_, ?_⟩, ?_, ?_, ?_⟩, ⟨?_, ?_, ?_, ?_⟩, ⟨?_, ?_, ?_⟩⟩
  · rw [ff 4 (by omega), cm_low h hr (by omega) (by omega) (by omega)]; exact a0
  · rw [ff 5 (by omega), cm_low h hr (by omega) (by omega) (by omega)]; exact a1
  · rw [ff 6 (by omega), cm_low h hr (by omega) (by omega) (by omega)]; exact a2
  · rw [f7, cm_4 h]
  · rw [ff 8 (by omega), cm_low h hr (by omega) (by omega) (by omega)]; exact a4
  · intro l hl
    rw [cm_nl h hr] at hl
    obtain ⟨c1, c2, c3, c4⟩ := al l hl
    rw [cm_tp h hr l (by omega), cm_fk h hr l (by omega), cm_sm h hr l (by omega), cm_pr h hr l (by omega), r13, rr 12 (by omega), rr 14 (by omega), rr 11 (by omega)]
    refine ⟨?_, c2, c3, c4⟩
    by_cases c : l = nl N - 1
    · rw [if_pos c, c, pk_us]
    · rw [if_neg c, pk_un c]; exact c1
  · rw [rr 11 (by omega)]; exact ap
  · rw [cm_md h hr, cm_nl h hr, cm_smT h hr, am]
  · intro l p hl hp1 hp2
    rw [cm_nl h hr] at hl
    rw [cm_fk h hr l (by omega)] at hp1 ⊢
    rw [cm_tp h hr l (by omega)] at hp2
    have ht := (h.2.1.1 l hl).2
    rw [cm_sm h hr l (by omega), r15, r16, r17]
    by_cases c : l = nl N - 1 ∧ p = tp N (nl N - 1) + 1
    · rw [c.1, c.2, (cm_rec h hr).1, (cm_rec h hr).2.1, (cm_rec h hr).2.2]
      rw [show sm N (nl N - 1) + (tp N (nl N - 1) + 1) - fk N (nl N - 1) - 1 = md N by omega, pk_us, pk_us, pk_us]
      exact ⟨rfl, rfl, rfl⟩
    · have hp3 : p ≤ tp N l := by
        by_cases c2 : l = nl N - 1
        · rw [if_pos c2] at hp2; rw [c2] at hp2 c ⊢; omega
        · rw [if_neg c2] at hp2; exact hp2
      have hlt := hls l hl
      rw [show cmN N (nI s) b v (ra l p) = N (ra l p) from cm_recN h hr (i := 0) (by omega) (by omega) (by omega) c, cm_recN h hr (i := 1) (by omega) (by omega) (by omega) c, cm_recN h hr (i := 2) (by omega) (by omega) (by omega) c, pk_un (by omega), pk_un (by omega), pk_un (by omega)]
      exact ar l p hl hp1 hp3
  · intro l k hl hk
    rw [cm_nl h hr] at hl
    rw [cm_kp h hr (by omega) hk, r18]
    by_cases c : (tp N (nl N - 1) + 1) % wd N = 0
    · rw [if_pos c]
      by_cases d : l = nl N - 1 ∧ k = tp N (nl N - 1) / wd N
      · rw [if_pos ⟨d.1, d.2, c⟩, d.1, d.2, Nat.mul_comm 120, pk_us]
      · rw [if_neg (fun e => d ⟨e.1, e.2.1⟩), pk_un (by omega)]; exact ac l k hl hk
    · rw [if_neg c, if_neg (fun e => c e.2.2)]; exact ac l k hl hk
  · intro i hi
    rw [r15]
    by_cases c : i = md N
    · rw [c, pk_us]; exact ⟨s, hs, rfl⟩
    · rw [pk_un c]; exact as i hi
  · intro i hi
    rw [r18]
    split
    · by_cases c : i = (nl N - 1) * 120 + tp N (nl N - 1) / wd N
      · rw [c, pk_us]; exact ⟨1, by omega, rfl⟩
      · rw [pk_un c]; exact aq i hi
    · exact aq i hi
  · rw [ff 9 (by omega), cm_nc h hr, ao]
    congr 1
    exact bs_cong (fun c hc => by unfold co; rw [cm_low h hr (by omega) (by omega) (by omega)])
  · rw [ff 10 (by omega), cm_nc h hr, ad]
    congr 1
    exact bs_cong (fun c hc => by unfold cd; rw [cm_low h hr (by omega) (by omega) (by omega)])
  · intro c hc
    rw [cm_nc h hr] at hc
    obtain ⟨x1, x2, x3, x4⟩ := ax c hc
    rw [rr 19 (by omega), rr 20 (by omega), rr 21 (by omega), rr 22 (by omega), rr 23 (by omega), rr 24 (by omega), cm_low h hr (by omega) (by omega) (by omega), cm_low h hr (by omega) (by omega) (by omega)]
    have ek : ∀ g, g < 8 → tk (cmN N (nI s) b v) c g = tk N c g := fun g hg => by unfold tk; rw [cm_low h hr (by omega) (by omega) (by omega)]
    refine ⟨x1, x2, ?_, ?_⟩
    · rw [x3]
      congr 1
      exact (bs_cong (fun g hg => ek g hg)).symm
    · intro g hg ht
      rw [ek g hg] at ht
      obtain ⟨y1, y2, y3⟩ := x4 g hg ht
      unfold tl tw
      rw [cm_low h hr (by omega) (by omega) (by omega), cm_low h hr (by omega) (by omega) (by omega), cm_low h hr (by omega) (by omega) (by omega)]
      exact ⟨y1, y2, y3⟩
theorem d_come {F : Nat} {σ : St} {N : Nat → Int32} (h : NN N) (j : JJ σ N) (hr : rm N) {s : Nat} (hs : s < 4) {b v : Int32} : ∃ σ', f_X2_come F σ (nI s) b v = some (nI (tp N (nl N - 1) + 1), σ') ∧ JJ σ' (cmN N (nI s) b v) ∧ Fr σ σ' := by
  obtain ⟨b1, b2, b3, b4, b5, b6, b7, b8⟩ := NNb h
  obtain ⟨e4, e5, e6, e7, e8⟩ := JJf h j
  have hft : fk N (nl N - 1) ≤ tp N (nl N - 1) := fk_le h.2.1 (by omega)
  have hd := div120 (p := tp N (nl N - 1) + 1) (w := wd N) (by omega) b3 (by omega)
  rw [Nat.add_sub_cancel] at hd
  have hq := Nat.zero_le (tp N (nl N - 1) / wd N)
  have hm := Nat.mod_lt (tp N (nl N - 1) + 1) (show 0 < wd N by omega)
  have q13 := j_tip j (l := nl N - 1) (by omega)
  have q12 := j_fork j (l := nl N - 1) (by omega)
  unfold f_X2_come f_X2_hasRoomFor f_X2_now f_X2_missingToFull f_X2_missingToFull_21 f_X2_now f_X2_pieceHolding f_X2_setCondition f_X2_hasPiece
  by_cases c : (tp N (nl N - 1) + 1) % wd N = 0
  · obtain ⟨c1, c2⟩ := full_q (by omega) c
    simp (disch := omega) only [↓bnd_i, ↓cal_s, ↓cal_n, ↓cal2_s, ↓cal2_n, cal_s, cal2_s, ↓reduceIte, fa_lit, m1_lit, m2_lit, m1_lt, m2_lt, m1_eq, m2_eq, m1_le, m2_le, le_m1, le_m2, lt_m1, lt_m2, m12, m21, m1_m1, n_lt, n_le, n_eq, lt_t, lt_f, le_t, le_f, eq_t, eq_f, n_cl, inb_ok, n_add, pk_mul, pk_sub, n_rem, n_div, n_dec, n_mx, n_mn, eq_m1, eq_m2, ss_same, ss_ne, ss_r, ss_l, sr_f, sr_l, sr_same, sr_ne, sw_f, sw_l, sw_at, sw_ne, pk_us, pk_un, bI_t, bI_f, not_true_eq_false, not_false_eq_true, eq_self, and_true, true_and, and_false, false_and, or_true, true_or, or_false, false_or, decide_true, decide_false, Bool.false_eq_true, Bool.true_eq_false, e4, e5, e6, e7, e8, q13, q12, nar4 s hs, nar4 1 (by omega), c, Nat.add_sub_cancel]
    refine ⟨_, rfl, JJ_cm h j hr hs ?_ ?_ ?_ ?_ ?_ ?_ ?_ ?_, ?_⟩
    · simp (disch := omega) only [↓bnd_i, ↓cal_s, ↓cal_n, ↓cal2_s, ↓cal2_n, cal_s, cal2_s, ↓reduceIte, fa_lit, m1_lit, m2_lit, m1_lt, m2_lt, m1_eq, m2_eq, m1_le, m2_le, le_m1, le_m2, lt_m1, lt_m2, m12, m21, m1_m1, n_lt, n_le, n_eq, lt_t, lt_f, le_t, le_f, eq_t, eq_f, n_cl, inb_ok, n_add, pk_mul, pk_sub, n_rem, n_div, n_dec, n_mx, n_mn, eq_m1, eq_m2, ss_same, ss_ne, ss_r, ss_l, sr_f, sr_l, sr_same, sr_ne, sw_f, sw_l, sw_at, sw_ne, pk_us, pk_un, bI_t, bI_f, not_true_eq_false, not_false_eq_true, eq_self, and_true, true_and, and_false, false_and, or_true, true_or, or_false, false_or, decide_true, decide_false, Bool.false_eq_true, Bool.true_eq_false]
    · rintro k (rfl | rfl | rfl | rfl | rfl | rfl) <;> simp (disch := omega) only [↓bnd_i, ↓cal_s, ↓cal_n, ↓cal2_s, ↓cal2_n, cal_s, cal2_s, ↓reduceIte, fa_lit, m1_lit, m2_lit, m1_lt, m2_lt, m1_eq, m2_eq, m1_le, m2_le, le_m1, le_m2, lt_m1, lt_m2, m12, m21, m1_m1, n_lt, n_le, n_eq, lt_t, lt_f, le_t, le_f, eq_t, eq_f, n_cl, inb_ok, n_add, pk_mul, pk_sub, n_rem, n_div, n_dec, n_mx, n_mn, eq_m1, eq_m2, ss_same, ss_ne, ss_r, ss_l, sr_f, sr_l, sr_same, sr_ne, sw_f, sw_l, sw_at, sw_ne, pk_us, pk_un, bI_t, bI_f, not_true_eq_false, not_false_eq_true, eq_self, and_true, true_and, and_false, false_and, or_true, true_or, or_false, false_or, decide_true, decide_false, Bool.false_eq_true, Bool.true_eq_false]
    · simp (disch := omega) only [↓bnd_i, ↓cal_s, ↓cal_n, ↓cal2_s, ↓cal2_n, cal_s, cal2_s, ↓reduceIte, fa_lit, m1_lit, m2_lit, m1_lt, m2_lt, m1_eq, m2_eq, m1_le, m2_le, le_m1, le_m2, lt_m1, lt_m2, m12, m21, m1_m1, n_lt, n_le, n_eq, lt_t, lt_f, le_t, le_f, eq_t, eq_f, n_cl, inb_ok, n_add, pk_mul, pk_sub, n_rem, n_div, n_dec, n_mx, n_mn, eq_m1, eq_m2, ss_same, ss_ne, ss_r, ss_l, sr_f, sr_l, sr_same, sr_ne, sw_f, sw_l, sw_at, sw_ne, pk_us, pk_un, bI_t, bI_f, not_true_eq_false, not_false_eq_true, eq_self, and_true, true_and, and_false, false_and, or_true, true_or, or_false, false_or, decide_true, decide_false, Bool.false_eq_true, Bool.true_eq_false]
    · simp (disch := omega) only [↓bnd_i, ↓cal_s, ↓cal_n, ↓cal2_s, ↓cal2_n, cal_s, cal2_s, ↓reduceIte, fa_lit, m1_lit, m2_lit, m1_lt, m2_lt, m1_eq, m2_eq, m1_le, m2_le, le_m1, le_m2, lt_m1, lt_m2, m12, m21, m1_m1, n_lt, n_le, n_eq, lt_t, lt_f, le_t, le_f, eq_t, eq_f, n_cl, inb_ok, n_add, pk_mul, pk_sub, n_rem, n_div, n_dec, n_mx, n_mn, eq_m1, eq_m2, ss_same, ss_ne, ss_r, ss_l, sr_f, sr_l, sr_same, sr_ne, sw_f, sw_l, sw_at, sw_ne, pk_us, pk_un, bI_t, bI_f, not_true_eq_false, not_false_eq_true, eq_self, and_true, true_and, and_false, false_and, or_true, true_or, or_false, false_or, decide_true, decide_false, Bool.false_eq_true, Bool.true_eq_false]
    · simp (disch := omega) only [↓bnd_i, ↓cal_s, ↓cal_n, ↓cal2_s, ↓cal2_n, cal_s, cal2_s, ↓reduceIte, fa_lit, m1_lit, m2_lit, m1_lt, m2_lt, m1_eq, m2_eq, m1_le, m2_le, le_m1, le_m2, lt_m1, lt_m2, m12, m21, m1_m1, n_lt, n_le, n_eq, lt_t, lt_f, le_t, le_f, eq_t, eq_f, n_cl, inb_ok, n_add, pk_mul, pk_sub, n_rem, n_div, n_dec, n_mx, n_mn, eq_m1, eq_m2, ss_same, ss_ne, ss_r, ss_l, sr_f, sr_l, sr_same, sr_ne, sw_f, sw_l, sw_at, sw_ne, pk_us, pk_un, bI_t, bI_f, not_true_eq_false, not_false_eq_true, eq_self, and_true, true_and, and_false, false_and, or_true, true_or, or_false, false_or, decide_true, decide_false, Bool.false_eq_true, Bool.true_eq_false]
    · simp (disch := omega) only [↓bnd_i, ↓cal_s, ↓cal_n, ↓cal2_s, ↓cal2_n, cal_s, cal2_s, ↓reduceIte, fa_lit, m1_lit, m2_lit, m1_lt, m2_lt, m1_eq, m2_eq, m1_le, m2_le, le_m1, le_m2, lt_m1, lt_m2, m12, m21, m1_m1, n_lt, n_le, n_eq, lt_t, lt_f, le_t, le_f, eq_t, eq_f, n_cl, inb_ok, n_add, pk_mul, pk_sub, n_rem, n_div, n_dec, n_mx, n_mn, eq_m1, eq_m2, ss_same, ss_ne, ss_r, ss_l, sr_f, sr_l, sr_same, sr_ne, sw_f, sw_l, sw_at, sw_ne, pk_us, pk_un, bI_t, bI_f, not_true_eq_false, not_false_eq_true, eq_self, and_true, true_and, and_false, false_and, or_true, true_or, or_false, false_or, decide_true, decide_false, Bool.false_eq_true, Bool.true_eq_false]
    · simp (disch := omega) only [↓bnd_i, ↓cal_s, ↓cal_n, ↓cal2_s, ↓cal2_n, cal_s, cal2_s, ↓reduceIte, fa_lit, m1_lit, m2_lit, m1_lt, m2_lt, m1_eq, m2_eq, m1_le, m2_le, le_m1, le_m2, lt_m1, lt_m2, m12, m21, m1_m1, n_lt, n_le, n_eq, lt_t, lt_f, le_t, le_f, eq_t, eq_f, n_cl, inb_ok, n_add, pk_mul, pk_sub, n_rem, n_div, n_dec, n_mx, n_mn, eq_m1, eq_m2, ss_same, ss_ne, ss_r, ss_l, sr_f, sr_l, sr_same, sr_ne, sw_f, sw_l, sw_at, sw_ne, pk_us, pk_un, bI_t, bI_f, not_true_eq_false, not_false_eq_true, eq_self, and_true, true_and, and_false, false_and, or_true, true_or, or_false, false_or, decide_true, decide_false, Bool.false_eq_true, Bool.true_eq_false, c]
    · rintro k (rfl | rfl | rfl | rfl | rfl | rfl | rfl | rfl | rfl) <;> simp (disch := omega) only [↓bnd_i, ↓cal_s, ↓cal_n, ↓cal2_s, ↓cal2_n, cal_s, cal2_s, ↓reduceIte, fa_lit, m1_lit, m2_lit, m1_lt, m2_lt, m1_eq, m2_eq, m1_le, m2_le, le_m1, le_m2, lt_m1, lt_m2, m12, m21, m1_m1, n_lt, n_le, n_eq, lt_t, lt_f, le_t, le_f, eq_t, eq_f, n_cl, inb_ok, n_add, pk_mul, pk_sub, n_rem, n_div, n_dec, n_mx, n_mn, eq_m1, eq_m2, ss_same, ss_ne, ss_r, ss_l, sr_f, sr_l, sr_same, sr_ne, sw_f, sw_l, sw_at, sw_ne, pk_us, pk_un, bI_t, bI_f, not_true_eq_false, not_false_eq_true, eq_self, and_true, true_and, and_false, false_and, or_true, true_or, or_false, false_or, decide_true, decide_false, Bool.false_eq_true, Bool.true_eq_false]
    · exact (((((((Fr.refl σ).sr (by omega) (by omega)).sr (by omega) (by omega)).sr (by omega) (by omega)).ss (by omega) (by omega)).sr (by omega) (by omega)).sr (by omega) (by omega))
  · simp (disch := omega) only [↓bnd_i, ↓cal_s, ↓cal_n, ↓cal2_s, ↓cal2_n, cal_s, cal2_s, ↓reduceIte, fa_lit, m1_lit, m2_lit, m1_lt, m2_lt, m1_eq, m2_eq, m1_le, m2_le, le_m1, le_m2, lt_m1, lt_m2, m12, m21, m1_m1, n_lt, n_le, n_eq, lt_t, lt_f, le_t, le_f, eq_t, eq_f, n_cl, inb_ok, n_add, pk_mul, pk_sub, n_rem, n_div, n_dec, n_mx, n_mn, eq_m1, eq_m2, ss_same, ss_ne, ss_r, ss_l, sr_f, sr_l, sr_same, sr_ne, sw_f, sw_l, sw_at, sw_ne, pk_us, pk_un, bI_t, bI_f, not_true_eq_false, not_false_eq_true, eq_self, and_true, true_and, and_false, false_and, or_true, true_or, or_false, false_or, decide_true, decide_false, Bool.false_eq_true, Bool.true_eq_false, e4, e5, e6, e7, e8, q13, q12, nar4 s hs, nar4 1 (by omega), Nat.add_sub_cancel]
    refine ⟨_, rfl, JJ_cm h j hr hs ?_ ?_ ?_ ?_ ?_ ?_ ?_ ?_, ?_⟩
    · simp (disch := omega) only [↓bnd_i, ↓cal_s, ↓cal_n, ↓cal2_s, ↓cal2_n, cal_s, cal2_s, ↓reduceIte, fa_lit, m1_lit, m2_lit, m1_lt, m2_lt, m1_eq, m2_eq, m1_le, m2_le, le_m1, le_m2, lt_m1, lt_m2, m12, m21, m1_m1, n_lt, n_le, n_eq, lt_t, lt_f, le_t, le_f, eq_t, eq_f, n_cl, inb_ok, n_add, pk_mul, pk_sub, n_rem, n_div, n_dec, n_mx, n_mn, eq_m1, eq_m2, ss_same, ss_ne, ss_r, ss_l, sr_f, sr_l, sr_same, sr_ne, sw_f, sw_l, sw_at, sw_ne, pk_us, pk_un, bI_t, bI_f, not_true_eq_false, not_false_eq_true, eq_self, and_true, true_and, and_false, false_and, or_true, true_or, or_false, false_or, decide_true, decide_false, Bool.false_eq_true, Bool.true_eq_false]
    · rintro k (rfl | rfl | rfl | rfl | rfl | rfl) <;> simp (disch := omega) only [↓bnd_i, ↓cal_s, ↓cal_n, ↓cal2_s, ↓cal2_n, cal_s, cal2_s, ↓reduceIte, fa_lit, m1_lit, m2_lit, m1_lt, m2_lt, m1_eq, m2_eq, m1_le, m2_le, le_m1, le_m2, lt_m1, lt_m2, m12, m21, m1_m1, n_lt, n_le, n_eq, lt_t, lt_f, le_t, le_f, eq_t, eq_f, n_cl, inb_ok, n_add, pk_mul, pk_sub, n_rem, n_div, n_dec, n_mx, n_mn, eq_m1, eq_m2, ss_same, ss_ne, ss_r, ss_l, sr_f, sr_l, sr_same, sr_ne, sw_f, sw_l, sw_at, sw_ne, pk_us, pk_un, bI_t, bI_f, not_true_eq_false, not_false_eq_true, eq_self, and_true, true_and, and_false, false_and, or_true, true_or, or_false, false_or, decide_true, decide_false, Bool.false_eq_true, Bool.true_eq_false]
    · simp (disch := omega) only [↓bnd_i, ↓cal_s, ↓cal_n, ↓cal2_s, ↓cal2_n, cal_s, cal2_s, ↓reduceIte, fa_lit, m1_lit, m2_lit, m1_lt, m2_lt, m1_eq, m2_eq, m1_le, m2_le, le_m1, le_m2, lt_m1, lt_m2, m12, m21, m1_m1, n_lt, n_le, n_eq, lt_t, lt_f, le_t, le_f, eq_t, eq_f, n_cl, inb_ok, n_add, pk_mul, pk_sub, n_rem, n_div, n_dec, n_mx, n_mn, eq_m1, eq_m2, ss_same, ss_ne, ss_r, ss_l, sr_f, sr_l, sr_same, sr_ne, sw_f, sw_l, sw_at, sw_ne, pk_us, pk_un, bI_t, bI_f, not_true_eq_false, not_false_eq_true, eq_self, and_true, true_and, and_false, false_and, or_true, true_or, or_false, false_or, decide_true, decide_false, Bool.false_eq_true, Bool.true_eq_false]
    · simp (disch := omega) only [↓bnd_i, ↓cal_s, ↓cal_n, ↓cal2_s, ↓cal2_n, cal_s, cal2_s, ↓reduceIte, fa_lit, m1_lit, m2_lit, m1_lt, m2_lt, m1_eq, m2_eq, m1_le, m2_le, le_m1, le_m2, lt_m1, lt_m2, m12, m21, m1_m1, n_lt, n_le, n_eq, lt_t, lt_f, le_t, le_f, eq_t, eq_f, n_cl, inb_ok, n_add, pk_mul, pk_sub, n_rem, n_div, n_dec, n_mx, n_mn, eq_m1, eq_m2, ss_same, ss_ne, ss_r, ss_l, sr_f, sr_l, sr_same, sr_ne, sw_f, sw_l, sw_at, sw_ne, pk_us, pk_un, bI_t, bI_f, not_true_eq_false, not_false_eq_true, eq_self, and_true, true_and, and_false, false_and, or_true, true_or, or_false, false_or, decide_true, decide_false, Bool.false_eq_true, Bool.true_eq_false]
    · simp (disch := omega) only [↓bnd_i, ↓cal_s, ↓cal_n, ↓cal2_s, ↓cal2_n, cal_s, cal2_s, ↓reduceIte, fa_lit, m1_lit, m2_lit, m1_lt, m2_lt, m1_eq, m2_eq, m1_le, m2_le, le_m1, le_m2, lt_m1, lt_m2, m12, m21, m1_m1, n_lt, n_le, n_eq, lt_t, lt_f, le_t, le_f, eq_t, eq_f, n_cl, inb_ok, n_add, pk_mul, pk_sub, n_rem, n_div, n_dec, n_mx, n_mn, eq_m1, eq_m2, ss_same, ss_ne, ss_r, ss_l, sr_f, sr_l, sr_same, sr_ne, sw_f, sw_l, sw_at, sw_ne, pk_us, pk_un, bI_t, bI_f, not_true_eq_false, not_false_eq_true, eq_self, and_true, true_and, and_false, false_and, or_true, true_or, or_false, false_or, decide_true, decide_false, Bool.false_eq_true, Bool.true_eq_false]
    · simp (disch := omega) only [↓bnd_i, ↓cal_s, ↓cal_n, ↓cal2_s, ↓cal2_n, cal_s, cal2_s, ↓reduceIte, fa_lit, m1_lit, m2_lit, m1_lt, m2_lt, m1_eq, m2_eq, m1_le, m2_le, le_m1, le_m2, lt_m1, lt_m2, m12, m21, m1_m1, n_lt, n_le, n_eq, lt_t, lt_f, le_t, le_f, eq_t, eq_f, n_cl, inb_ok, n_add, pk_mul, pk_sub, n_rem, n_div, n_dec, n_mx, n_mn, eq_m1, eq_m2, ss_same, ss_ne, ss_r, ss_l, sr_f, sr_l, sr_same, sr_ne, sw_f, sw_l, sw_at, sw_ne, pk_us, pk_un, bI_t, bI_f, not_true_eq_false, not_false_eq_true, eq_self, and_true, true_and, and_false, false_and, or_true, true_or, or_false, false_or, decide_true, decide_false, Bool.false_eq_true, Bool.true_eq_false]
    · simp (disch := omega) only [↓bnd_i, ↓cal_s, ↓cal_n, ↓cal2_s, ↓cal2_n, cal_s, cal2_s, ↓reduceIte, fa_lit, m1_lit, m2_lit, m1_lt, m2_lt, m1_eq, m2_eq, m1_le, m2_le, le_m1, le_m2, lt_m1, lt_m2, m12, m21, m1_m1, n_lt, n_le, n_eq, lt_t, lt_f, le_t, le_f, eq_t, eq_f, n_cl, inb_ok, n_add, pk_mul, pk_sub, n_rem, n_div, n_dec, n_mx, n_mn, eq_m1, eq_m2, ss_same, ss_ne, ss_r, ss_l, sr_f, sr_l, sr_same, sr_ne, sw_f, sw_l, sw_at, sw_ne, pk_us, pk_un, bI_t, bI_f, not_true_eq_false, not_false_eq_true, eq_self, and_true, true_and, and_false, false_and, or_true, true_or, or_false, false_or, decide_true, decide_false, Bool.false_eq_true, Bool.true_eq_false, c]
    · rintro k (rfl | rfl | rfl | rfl | rfl | rfl | rfl | rfl | rfl) <;> simp (disch := omega) only [↓bnd_i, ↓cal_s, ↓cal_n, ↓cal2_s, ↓cal2_n, cal_s, cal2_s, ↓reduceIte, fa_lit, m1_lit, m2_lit, m1_lt, m2_lt, m1_eq, m2_eq, m1_le, m2_le, le_m1, le_m2, lt_m1, lt_m2, m12, m21, m1_m1, n_lt, n_le, n_eq, lt_t, lt_f, le_t, le_f, eq_t, eq_f, n_cl, inb_ok, n_add, pk_mul, pk_sub, n_rem, n_div, n_dec, n_mx, n_mn, eq_m1, eq_m2, ss_same, ss_ne, ss_r, ss_l, sr_f, sr_l, sr_same, sr_ne, sw_f, sw_l, sw_at, sw_ne, pk_us, pk_un, bI_t, bI_f, not_true_eq_false, not_false_eq_true, eq_self, and_true, true_and, and_false, false_and, or_true, true_or, or_false, false_or, decide_true, decide_false, Bool.false_eq_true, Bool.true_eq_false]
    · exact ((((((Fr.refl σ).sr (by omega) (by omega)).sr (by omega) (by omega)).sr (by omega) (by omega)).ss (by omega) (by omega)).sr (by omega) (by omega))
theorem d_comeN {F : Nat} {σ : St} {N : Nat → Int32} (h : NN N) (j : JJ σ N) (hr : ¬ rm N) {a b v : Int32} : f_X2_come F σ a b v = some (m1, σ) := by
  obtain ⟨b1, b2, b3, b4, b5, b6, b7, b8⟩ := NNb h
  obtain ⟨e4, e5, e6, e7, e8⟩ := JJf h j
  have q13 := j_tip j (l := nl N - 1) (by omega)
  have ht := (h.2.1.1 (nl N - 1) (by omega)).2
  unfold f_X2_come f_X2_hasRoomFor f_X2_now
  by_cases c : 600 < md N + 1
  · simp (disch := omega) only [↓bnd_i, ↓cal_s, ↓cal_n, ↓cal2_s, ↓cal2_n, cal_s, cal2_s, ↓reduceIte, fa_lit, m1_lit, m2_lit, m1_lt, m2_lt, m1_eq, m2_eq, m1_le, m2_le, le_m1, le_m2, lt_m1, lt_m2, m12, m21, m1_m1, n_lt, n_le, n_eq, lt_t, lt_f, le_t, le_f, eq_t, eq_f, n_cl, inb_ok, n_add, pk_mul, pk_sub, n_rem, n_div, n_dec, n_mx, n_mn, eq_m1, eq_m2, ss_same, ss_ne, ss_r, ss_l, sr_f, sr_l, sr_same, sr_ne, sw_f, sw_l, sw_at, sw_ne, pk_us, pk_un, bI_t, bI_f, not_true_eq_false, not_false_eq_true, eq_self, and_true, true_and, and_false, false_and, or_true, true_or, or_false, false_or, decide_true, decide_false, Bool.false_eq_true, Bool.true_eq_false, e6, e7, q13]
  · simp (disch := omega) only [↓bnd_i, ↓cal_s, ↓cal_n, ↓cal2_s, ↓cal2_n, cal_s, cal2_s, ↓reduceIte, fa_lit, m1_lit, m2_lit, m1_lt, m2_lt, m1_eq, m2_eq, m1_le, m2_le, le_m1, le_m2, lt_m1, lt_m2, m12, m21, m1_m1, n_lt, n_le, n_eq, lt_t, lt_f, le_t, le_f, eq_t, eq_f, n_cl, inb_ok, n_add, pk_mul, pk_sub, n_rem, n_div, n_dec, n_mx, n_mn, eq_m1, eq_m2, ss_same, ss_ne, ss_r, ss_l, sr_f, sr_l, sr_same, sr_ne, sw_f, sw_l, sw_at, sw_ne, pk_us, pk_un, bI_t, bI_f, not_true_eq_false, not_false_eq_true, eq_self, and_true, true_and, and_false, false_and, or_true, true_or, or_false, false_or, decide_true, decide_false, Bool.false_eq_true, Bool.true_eq_false, e6, e7, q13]
