/-! PURE: only the first 7164 places count; a store begins -/
section
variable {N M : Nat → Int32}
theorem cg_acc (e : ∀ k, k < 7164 → M k = N k) : pg M = pg N ∧ wd M = wd N ∧ nl M = nl N ∧ md M = md N ∧ nc M = nc N ∧ (∀ l, l < 8 → tp M l = tp N l ∧ pr M l = pr N l ∧ fk M l = fk N l) ∧ (∀ l k, l < 8 → k < 120 → kp M l k = kp N l k) ∧ (∀ c, c < 10 → co M c = co N c ∧ cd M c = cd N c) ∧ (∀ c g, c < 10 → g < 8 → tk M c g = tk N c g ∧ tl M c g = tl N c g ∧ tw M c g = tw N c g) := by
  unfold pg wd nl md nc tp pr fk kp co cd tk tl tw
  rw [e 0 (by omega), e 1 (by omega), e 2 (by omega), e 4 (by omega), e 5 (by omega)]
  refine ⟨rfl, rfl, rfl, rfl, rfl, fun l hl => ?_, fun l k hl hk => ?_, fun c hc => ?_, fun c g hc hg => ?_⟩
  · rw [e (20 + 4 * l) (by omega), e (20 + 4 * l + 1) (by omega), e (20 + 4 * l + 2) (by omega)]; exact ⟨rfl, rfl, rfl⟩
  · rw [e (420 + 120 * l + k) (by omega)]
  · rw [e (60 + 4 * c + 2) (by omega), e (60 + 4 * c + 3) (by omega)]; exact ⟨rfl, rfl⟩
  · rw [e (100 + 4 * (8 * c + g)) (by omega), e (100 + 4 * (8 * c + g) + 1) (by omega), e (100 + 4 * (8 * c + g) + 2) (by omega)]; exact ⟨rfl, rfl, rfl⟩
theorem cg_sm (e : ∀ k, k < 7164 → M k = N k) : ∀ l, l ≤ 8 → sm M l = sm N l := by
  obtain ⟨-, -, -, -, -, q6, -⟩ := cg_acc e
  intro l
  induction l with
  | zero => intro _; rfl
  | succ l ih =>
    intro hl
    obtain ⟨x1, x2, x3⟩ := q6 l (by omega)
    simp only [sm]
    rw [ih (by omega), x1, x3]
theorem NN_cong (e : ∀ k, k < 7164 → M k = N k) (h : NN N) : NN M := by
  obtain ⟨b1, b2, b3, b4, b5, b6, b7, b8⟩ := NNb h
  obtain ⟨q1, q2, q3, q4, q5, q6, q7, q8, q9⟩ := cg_acc e
  obtain ⟨h1, h2, h3, h4, h5⟩ := h
  have h : NN N := ⟨h1, h2, h3, h4, h5⟩
  refine ⟨?_, ?_, ?_, ?_, ?_⟩
  · unfold N1
    rw [q1, q2, q3, q4, q5, e 0 (by omega), e 1 (by omega), e 2 (by omega), e 3 (by omega), e 4 (by omega), e 5 (by omega), e 6 (by omega)]
    exact h1
  · unfold N2
    rw [q3, e 21 (by omega), e 22 (by omega)]
    refine ⟨fun k hk => ?_, fun k h0 hk => ?_, h2.2.2.1, h2.2.2.2⟩
    · rw [(q6 k (by omega)).1, e (20 + 4 * k) (by omega)]; exact h2.1 k hk
    · obtain ⟨c1, c2, c3, c4, c5⟩ := h2.2.1 k h0 hk
      obtain ⟨x1, x2, x3⟩ := q6 k (by omega)
      rw [x1, x2, x3, (q6 (pr N k) (by omega)).1, e (20 + 4 * k + 1) (by omega), e (20 + 4 * k + 2) (by omega)]
      exact ⟨c1, c2, c3, c4, c5⟩
  · unfold N3
    rw [q3]
    refine ⟨fun l k hl hk => ?_, fun l k hn hl hk => ?_⟩
    · rw [q7 l k hl hk, e (420 + 120 * l + k) (by omega)]; exact h3.1 l k hl hk
    · rw [q7 l k hl hk]; exact h3.2 l k hn hl hk
  · intro l p hl hp1 hp2
    rw [q3] at hl
    obtain ⟨x1, x2, x3⟩ := q6 l (by omega)
    rw [x3] at hp1
    rw [x1] at hp2
    have ht := (h2.1 l hl).2
    unfold ra
    rw [q1, e (1380 + 3 * (241 * l + p)) (by omega), e (1380 + 3 * (241 * l + p) + 1) (by omega)]
    exact h4 l p hl hp1 hp2
  · intro c hc
    rw [q5] at hc
    obtain ⟨c1, c2, c3, c4⟩ := h5 c hc
    rw [q1, (q8 c (by omega)).1, (q8 c (by omega)).2, e (60 + 4 * c + 1) (by omega), e (60 + 4 * c + 2) (by omega), e (60 + 4 * c + 3) (by omega)]
    refine ⟨c1, c2, c3, fun g hg => ?_⟩
    obtain ⟨x1, x2, x3⟩ := q9 c g (by omega) hg
    rw [x1, x2, x3, e (100 + 4 * (8 * c + g)) (by omega), e (100 + 4 * (8 * c + g) + 1) (by omega), e (100 + 4 * (8 * c + g) + 2) (by omega)]
    exact c4 g hg
theorem JJ_cong {σ : St} (e : ∀ k, k < 7164 → M k = N k) (h : NN N) (j : JJ σ N) : JJ σ M := by
  obtain ⟨b1, b2, b3, b4, b5, b6, b7, b8⟩ := NNb h
  obtain ⟨q1, q2, q3, q4, q5, q6, q7, q8, q9⟩ := cg_acc e
  obtain ⟨⟨⟨a0, a1, a2, a3, a4⟩, al, ap, am⟩, ⟨ar, ac, as, aq⟩, ⟨ao, ad, ax⟩⟩ := j
  refine ⟨⟨⟨?_, ?_, ?_, ?_, ?_⟩, ?_, ap, ?_⟩, ⟨?_, ?_, as, aq⟩, ⟨?_, ?_, ?_⟩⟩
  · rw [e 0 (by omega)]; exact a0
  · rw [e 1 (by omega)]; exact a1
  · rw [e 2 (by omega)]; exact a2
  · rw [e 4 (by omega)]; exact a3
  · rw [e 5 (by omega)]; exact a4
  · intro k hk
    rw [q3] at hk
    obtain ⟨x1, x2, x3⟩ := q6 k (by omega)
    rw [x1, x2, x3, cg_sm e k (by omega)]
    exact al k hk
  · rw [q3, q4, cg_sm e (nl N) b6]; exact am
  · intro l p hl hp1 hp2
    rw [q3] at hl
    obtain ⟨x1, x2, x3⟩ := q6 l (by omega)
    rw [x3] at hp1 ⊢
    rw [x1] at hp2
    have ht := (h.2.1.1 l hl).2
    unfold ra
    rw [cg_sm e l (by omega), e (1380 + 3 * (241 * l + p)) (by omega), e (1380 + 3 * (241 * l + p) + 1) (by omega), e (1380 + 3 * (241 * l + p) + 2) (by omega)]
    exact ar l p hl hp1 hp2
  · intro l k hl hk
    rw [q3] at hl
    rw [q7 l k (by omega) hk]
    exact ac l k hl hk
  · rw [q5, ao]
    congr 1
    exact bs_cong (fun c hc => (q8 c (by omega)).1.symm)
  · rw [q5, ad]
    congr 1
    exact bs_cong (fun c hc => (q8 c (by omega)).2.symm)
  · intro c hc
    rw [q5] at hc
    obtain ⟨y1, y2, y3, y4⟩ := ax c hc
    rw [e (60 + 4 * c) (by omega), e (60 + 4 * c + 1) (by omega)]
    refine ⟨y1, y2, ?_, ?_⟩
    · rw [y3]
      congr 1
      exact bs_cong (fun g hg => (q9 c g (by omega) hg).1.symm)
    · intro g hg hk
      obtain ⟨x1, x2, x3⟩ := q9 c g (by omega) hg
      rw [x1] at hk
      rw [x2, x3, e (100 + 4 * (8 * c + g) + 3) (by omega)]
      exact y4 g hg hk
end
/-! a store begins -/
def bgN (N : Nat → Int32) (p w : Nat) : Nat → Int32 := nlN (upd (upd (fun k => if k < 1380 then nI 0 else N k) 0 (nI p)) 1 (nI w)) 0 m2 m2 (nI 0)
theorem bgN_hi {N : Nat → Int32} {p w k : Nat} (h : 1380 ≤ k) : bgN N p w k = N k := by
  unfold bgN
  rw [nlN_out (by omega) (by omega) (by omega), pk_un (by omega), pk_un (by omega), if_neg (by omega)]
theorem bgN_0 {N : Nat → Int32} {p w k : Nat} (h : k < 1380) (h0 : k ≠ 0) (h1 : k ≠ 1) (h2 : k ≠ 2) (h3 : k < 20 ∨ 22 < k) : bgN N p w k = nI 0 := by
  unfold bgN
  by_cases e3 : k = 3
  · rw [e3, nlN_in.2.2.2.1]
  · rw [nlN_out h2 e3 (by omega), pk_un h1, pk_un h0, if_pos h]
theorem bgN_v {N : Nat → Int32} {p w : Nat} : bgN N p w 0 = nI p ∧ bgN N p w 1 = nI w ∧ bgN N p w 2 = nI 1 ∧ bgN N p w 20 = nI 0 ∧ bgN N p w 21 = m2 ∧ bgN N p w 22 = m2 := by
  unfold bgN
  have q := nlN_in (N := upd (upd (fun k => if k < 1380 then nI 0 else N k) 0 (nI p)) 1 (nI w)) (n := 0) (a := m2) (b := m2) (c := nI 0)
  refine ⟨?_, ?_, q.2.2.2.2, q.1, q.2.1, q.2.2.1⟩
  · rw [nlN_out (by omega) (by omega) (by omega), pk_un (by omega), pk_us]
  · rw [nlN_out (by omega) (by omega) (by omega), pk_us]
theorem bg_acc {N : Nat → Int32} {p w : Nat} (hp : p ≤ 8) (hw : w ≤ 8) : pg (bgN N p w) = p ∧ wd (bgN N p w) = w ∧ nl (bgN N p w) = 1 ∧ md (bgN N p w) = 0 ∧ nc (bgN N p w) = 0 ∧ tp (bgN N p w) 0 = 0 ∧ (∀ l k, l < 8 → k < 120 → kp (bgN N p w) l k = 0) := by
  obtain ⟨v0, v1, v2, v20, v21, v22⟩ := bgN_v (N := N) (p := p) (w := w)
  unfold pg wd nl md nc tp kp
  refine ⟨?_, ?_, ?_, ?_, ?_, ?_, fun l k hl hk => ?_⟩
  · rw [v0, n_cl (by omega)]
  · rw [v1, n_cl (by omega)]
  · rw [v2, n_cl (by omega)]
  · rw [bgN_0 (by omega) (by omega) (by omega) (by omega) (by omega), n_cl (by omega)]
  · rw [bgN_0 (by omega) (by omega) (by omega) (by omega) (by omega), n_cl (by omega)]
  · rw [show 20 + 4 * 0 = 20 from rfl, v20, n_cl (by omega)]
  · rw [bgN_0 (by omega) (by omega) (by omega) (by omega) (by omega), n_cl (by omega)]
theorem NN_bg {N : Nat → Int32} {p w : Nat} (hp1 : 1 ≤ p) (hp : p ≤ 8) (hw2 : 2 ≤ w) (hw : w ≤ 8) : NN (bgN N p w) := by
  obtain ⟨q1, q2, q3, q4, q5, q6, q7⟩ := bg_acc (N := N) hp hw
  obtain ⟨v0, v1, v2, v20, v21, v22⟩ := bgN_v (N := N) (p := p) (w := w)
  refine ⟨?_, ?_, ?_, ?_, ?_⟩
  · unfold N1
    rw [q1, q2, q3, q4, q5, v0, v1, v2]
    refine ⟨⟨rfl, hp1, hp⟩, ⟨rfl, hw2, hw⟩, ⟨rfl, by omega, by omega⟩, bgN_0 (by omega) (by omega) (by omega) (by omega) (by omega), ⟨bgN_0 (by omega) (by omega) (by omega) (by omega) (by omega), by omega⟩, ⟨bgN_0 (by omega) (by omega) (by omega) (by omega) (by omega), by omega⟩, 0, by omega, bgN_0 (by omega) (by omega) (by omega) (by omega) (by omega)⟩
  · unfold N2
    rw [q3, v21, v22]
    refine ⟨fun k hk => ?_, fun k h0 hk => by omega, rfl, rfl⟩
    have : k = 0 := by omega
    subst this
    rw [q6]
    exact ⟨v20, by omega⟩
  · unfold N3
    refine ⟨fun l k hl hk => ?_, fun l k _ hl hk => q7 l k hl hk⟩
    rw [q7 l k hl hk]
    exact ⟨bgN_0 (by omega) (by omega) (by omega) (by omega) (by omega), by omega⟩
  · intro l k hl h1 h2
    rw [q3] at hl
    have : l = 0 := by omega
    subst this
    rw [q6] at h2
    omega
  · intro c hc
    rw [q5] at hc
    omega
theorem t_begins {F : Nat} (hF : 1400 < F) {τ : St} (p w : Nat) : f_X8_begins F τ (nI p) (nI w) = some (sw τ 19 (bgN (nw τ) p w)) := by
  have key : ∀ (n k : Nat) (t : St), k ≤ 1380 → 1380 - k < n → f_X8_begins_2 F n t (nI p) (nI w) (nI k) = cal (f_X8_newLine F (sr (sr (sw t 19 (fun i => if k ≤ i ∧ i < 1380 then nI 0 else t.2.1 19 i)) 19 0 (nI p)) 19 1 (nI w)) m2 m2 (nI 0)) (fun t4 => some t4) := by
    intro n
    induction n with
    | zero => intro k t _ h; omega
    | succ n ih =>
      intro k t hk hn
      rw [f_X8_begins_2]
      by_cases e : k = 1380
      · have ef : (fun i => if k ≤ i ∧ i < 1380 then nI 0 else t.2.1 19 i) = t.2.1 19 := by
          funext i
          rw [if_neg (by omega)]
        rw [ef, sw_self]
        simp (disch := omega) only [↓bnd_i, ↓cal_s, ↓cal_n, ↓cal2_s, ↓cal2_n, cal_s, cal2_s, ↓reduceIte, fa_lit, m1_lit, m2_lit, m1_lt, m2_lt, m1_eq, m2_eq, m1_le, m2_le, le_m1, le_m2, lt_m1, lt_m2, m12, m21, m1_m1, n_lt, n_le, n_eq, lt_t, lt_f, le_t, le_f, eq_t, eq_f, n_cl, inb_ok, n_add, pk_mul, pk_sub, n_rem, n_div, n_dec, n_mx, n_mn, eq_m1, eq_m2, ss_same, ss_ne, ss_r, ss_l, sr_f, sr_l, sr_same, sr_ne, sw_f, sw_l, sw_at, sw_ne, pk_us, pk_un, bI_t, bI_f, not_true_eq_false, not_false_eq_true, eq_self, and_true, true_and, and_false, false_and, or_true, true_or, or_false, false_or, decide_true, decide_false, Bool.false_eq_true, Bool.true_eq_false]
      · have ih' := ih (k + 1) (sr t 19 k (nI 0)) (by omega) (by omega)
        have ef : sw (sr t 19 k (nI 0)) 19 (fun i => if k + 1 ≤ i ∧ i < 1380 then nI 0 else (sr t 19 k (nI 0)).2.1 19 i) = sw t 19 (fun i => if k ≤ i ∧ i < 1380 then nI 0 else t.2.1 19 i) := by
          rw [sr_as, sw_sw]
          congr 1
          funext i
          rw [sw_at]
          by_cases d : i = k
          · subst d
            rw [if_neg (by omega), if_pos (by omega), pk_us]
          · rw [pk_un d]
            by_cases d2 : k ≤ i ∧ i < 1380
            · rw [if_pos d2, if_pos (by omega)]
            · rw [if_neg d2, if_neg (by omega)]
        rw [ef] at ih'
        simp (disch := omega) only [↓bnd_i, ↓cal_s, ↓cal_n, ↓cal2_s, ↓cal2_n, cal_s, cal2_s, ↓reduceIte, fa_lit, m1_lit, m2_lit, m1_lt, m2_lt, m1_eq, m2_eq, m1_le, m2_le, le_m1, le_m2, lt_m1, lt_m2, m12, m21, m1_m1, n_lt, n_le, n_eq, lt_t, lt_f, le_t, le_f, eq_t, eq_f, n_cl, inb_ok, n_add, pk_mul, pk_sub, n_rem, n_div, n_dec, n_mx, n_mn, eq_m1, eq_m2, ss_same, ss_ne, ss_r, ss_l, sr_f, sr_l, sr_same, sr_ne, sw_f, sw_l, sw_at, sw_ne, pk_us, pk_un, bI_t, bI_f, not_true_eq_false, not_false_eq_true, eq_self, and_true, true_and, and_false, false_and, or_true, true_or, or_false, false_or, decide_true, decide_false, Bool.false_eq_true, Bool.true_eq_false]
        exact ih'
  have k := key F 0 τ (by omega) (by omega)
  have k' : f_X8_begins F τ (nI p) (nI w) = _ := k
  have ef : (fun i => if 0 ≤ i ∧ i < 1380 then nI 0 else τ.2.1 19 i) = (fun i => if i < 1380 then nI 0 else nw τ i) := by
    funext i
    by_cases d : i < 1380
    · rw [if_pos d, if_pos (by omega)]
    · rw [if_neg d, if_neg (by omega)]
  rw [k', ef]
  have nl0 := t_newLine (F := F) (τ := sr (sr (sw τ 19 (fun i => if i < 1380 then nI 0 else nw τ i)) 19 0 (nI p)) 19 1 (nI w)) (n := 0) (by rw [sr_same, pk_un (by omega), sr_same, pk_un (by omega), sw_at]; rfl) (by omega) m2 m2 (nI 0)
  rw [cal_w nl0]
  unfold bgN nw
  rw [sr_same, sr_same, sw_at, sr_as, sr_as, sw_sw, sw_sw, sw_sw]
/-- the desk's store begins -/
def bgD (σ : St) (p w : Nat) : St := ss (ss (ss (brS (ss (ss (ss (ss σ 4 (nI p)) 5 (nI w)) 6 (nI 0)) 7 (nI 0)) 0 m2 (nI 0)) 8 (nI 0)) 9 (nI 0)) 10 (nI 0)
theorem d_beginS {F : Nat} (hF : 300 < F) {σ : St} (p w : Nat) : f_X5_begin F σ (nI p) (nI w) = some (bgD σ p w) := by
  have v := d_branch (F := F) hF (σ := ss (ss (ss (ss σ 4 (nI p)) 5 (nI w)) 6 (nI 0)) 7 (nI 0)) (n := 0) (by rw [ss_ne (by omega), ss_same]) (by omega) m2 (nI 0)
  unfold f_X5_begin f_X2_begin f_X0_forget bgD
  simp (disch := omega) only [↓bnd_i, ↓cal_s, ↓cal_n, ↓cal2_s, ↓cal2_n, cal_s, cal2_s, ↓reduceIte, fa_lit, m1_lit, m2_lit, m1_lt, m2_lt, m1_eq, m2_eq, m1_le, m2_le, le_m1, le_m2, lt_m1, lt_m2, m12, m21, m1_m1, n_lt, n_le, n_eq, lt_t, lt_f, le_t, le_f, eq_t, eq_f, n_cl, inb_ok, n_add, pk_mul, pk_sub, n_rem, n_div, n_dec, n_mx, n_mn, eq_m1, eq_m2, ss_same, ss_ne, ss_r, ss_l, sr_f, sr_l, sr_same, sr_ne, sw_f, sw_l, sw_at, sw_ne, pk_us, pk_un, bI_t, bI_f, not_true_eq_false, not_false_eq_true, eq_self, and_true, true_and, and_false, false_and, or_true, true_or, or_false, false_or, decide_true, decide_false, Bool.false_eq_true, Bool.true_eq_false, ↓cal_w (v), v]
theorem Fr.bgD {σ : St} {p w : Nat} : Fr σ (bgD σ p w) := by
  have e := (((((Fr.refl σ).ss (k := 4) (v := nI p) (by omega) (by omega)).ss (k := 5) (v := nI w) (by omega) (by omega)).ss (k := 6) (v := nI 0) (by omega) (by omega)).ss (k := 7) (v := nI 0) (by omega) (by omega)).brS (n := 0) (x := m2) (y := nI 0)
  exact ((e.ss (by omega) (by omega)).ss (by omega) (by omega)).ss (by omega) (by omega)
theorem JJ_bg {σ : St} {N : Nat → Int32} {p w : Nat} (hp1 : 1 ≤ p) (hp : p ≤ 8) (hw2 : 2 ≤ w) (hw : w ≤ 8) (as : ∀ i, i < 600 → ∃ s, s < 4 ∧ σ.2.1 15 i = nI s) (aq : ∀ i, i < 960 → ∃ s, s < 4 ∧ σ.2.1 18 i = nI s) : JJ (bgD σ p w) (bgN N p w) := by
  obtain ⟨q1, q2, q3, q4, q5, q6, q7⟩ := bg_acc (N := N) hp hw
  obtain ⟨v0, v1, v2, v20, v21, v22⟩ := bgN_v (N := N) (p := p) (w := w)
  obtain ⟨r11, r12, r13, r14, r18⟩ := brS_r (σ := ss (ss (ss (ss σ 4 (nI p)) 5 (nI w)) 6 (nI 0)) 7 (nI 0)) (n := 0) (x := m2) (y := nI 0)
  have z4 : bgN N p w 4 = nI 0 := bgN_0 (by omega) (by omega) (by omega) (by omega) (by omega)
  have z5 : bgN N p w 5 = nI 0 := bgN_0 (by omega) (by omega) (by omega) (by omega) (by omega)
  refine ⟨⟨⟨?_, ?_, ?_, ?_, ?_⟩, ?_, ?_, ?_⟩, ⟨?_, ?_, ?_, ?_⟩, ⟨?_, ?_, ?_⟩⟩
  · rw [v0]; unfold bgD; rw [ss_ne (by omega), ss_ne (by omega), ss_ne (by omega), brS_f (by omega), ss_ne (by omega), ss_ne (by omega), ss_ne (by omega), ss_same]
  · rw [v1]; unfold bgD; rw [ss_ne (by omega), ss_ne (by omega), ss_ne (by omega), brS_f (by omega), ss_ne (by omega), ss_ne (by omega), ss_same]
  · rw [v2]; unfold bgD; rw [ss_ne (by omega), ss_ne (by omega), ss_ne (by omega), brS_6]
  · rw [z4]; unfold bgD; rw [ss_ne (by omega), ss_ne (by omega), ss_ne (by omega), brS_f (by omega), ss_same]
  · rw [z5]; unfold bgD; rw [ss_ne (by omega), ss_ne (by omega), ss_same]
  · intro k hk
    rw [q3] at hk
    have : k = 0 := by omega
    subst this
    unfold bgD
    rw [ss_r, ss_r, ss_r, r11, r12, r13, r14, q6, pk_us, pk_us, pk_us, ss_same]
    exact ⟨rfl, rfl, rfl, fun h => by omega⟩
  · unfold bgD
    rw [ss_r, ss_r, ss_r, r11, pk_us]; rfl
  · rw [q3, q4]
    simp only [sm]
    rw [q6]
    rfl
  · intro l k hl h1 h2
    rw [q3] at hl
    have : l = 0 := by omega
    subst this
    rw [q6] at h2
    omega
  · intro l k hl hk
    rw [q3] at hl
    have : l = 0 := by omega
    subst this
    rw [q7 0 k (by omega) hk]
    unfold bgD
    rw [ss_r, ss_r, ss_r, r18, clS_in hk]
  · intro i hi
    unfold bgD
    rw [ss_r, ss_r, ss_r, brS_o (by omega)]
    exact as i hi
  · intro i hi
    unfold bgD
    rw [ss_r, ss_r, ss_r, r18]
    unfold clS
    split
    · exact ⟨0, by omega, rfl⟩
    · exact aq i hi
  · rw [q5]; unfold bgD; rw [ss_ne (by omega), ss_same]; rfl
  · rw [q5]; unfold bgD; rw [ss_same]; rfl
  · intro c hc
    rw [q5] at hc
    omega
