/-! PURE: the model's reckoning -/
theorem le2_k : ∀ k, k < 7 → 2 ≤ k → (2 : Int32) ≤ nI k := by decide +kernel
theorem le4_k : ∀ k, k < 5 → nI k ≤ (4 : Int32) := by decide +kernel
theorem gt4_k : ∀ k, k < 7 → 5 ≤ k → ¬ nI k ≤ (4 : Int32) := by decide +kernel
theorem eq2_k : ∀ k, k < 7 → (nI k = (2 : Int32) ↔ k = 2) := by decide +kernel
theorem eq3_k : ∀ k, k < 7 → (nI k = (3 : Int32) ↔ k = 3) := by decide +kernel
theorem eq5_k : ∀ k, k < 7 → (nI k = (5 : Int32) ↔ k = 5) := by decide +kernel
section
variable {F n m i X k : Nat} {t : St} {a b : Int32}
/-- a sign takes the upper two -/
theorem tm_op (h13 : t.2.1 13 i = nI k) (hk2 : 2 ≤ k) (hk6 : k ≤ 6) (hi : i < X) (hX : X ≤ 400) (hm : m + 2 ≤ 400) (pa : t.2.1 17 m = a) (pb : t.2.1 17 (m + 1) = b) : f_X8_termOf_5 F (n + 1) t (nI X) (nI (m + 2)) (nI i) = f_X8_termOf_5 F n (sr t 17 m (opV k a b)) (nI X) (nI (m + 1)) (nI (i + 1)) := by
  have e1 : nI (m + 2) + (-1 : Int32) = nI (m + 1) := n_dec (a := m + 2) (by omega)
  have e2 : nI (m + 1) - (1 : Int32) = nI m := n_sub1 m
  have ei : nI i + (1 : Int32) = nI (i + 1) := n_add i 1
  have c0 : ¬ nI X ≤ nI i := by rw [n_le (by omega) (by omega)]; omega
  have i1 : inb (nI m) 400 = true := inb_ok (by omega) (by omega)
  have i2 : inb (nI (m + 1)) 400 = true := inb_ok (by omega) (by omega)
  have st1 : ∀ w : Int32, f_X8_termOf_171 F (f_X8_termOf_5 F n) t (nI X) (nI (m + 1)) (nI i) w (nI m) = f_X8_termOf_5 F n (sr t 17 m w) (nI X) (nI (m + 1)) (nI (i + 1)) := by
    intro w
    unfold f_X8_termOf_171 f_X8_termOf_172
    rw [if_pos i1, bnd_i, bnd_i, n_cl (by omega), ei]
  have st2 : ∀ w : Int32, f_X8_termOf_127 F (f_X8_termOf_5 F n) t (nI X) (nI (m + 1)) (nI i) w (nI m) = f_X8_termOf_5 F n (sr t 17 m w) (nI X) (nI (m + 1)) (nI (i + 1)) := by
    intro w
    unfold f_X8_termOf_127 f_X8_termOf_172
    rw [if_pos i1, bnd_i, bnd_i, n_cl (by omega), ei]
  rw [f_X8_termOf_5, if_neg c0, if_pos (inb_ok (by omega) (by omega)), bnd_i, n_cl (by omega), h13, if_pos (le2_k k (by omega) hk2), bnd_i, e1, e2, if_pos i1, bnd_i, n_cl (a := m) (by omega), pa, if_pos i2, bnd_i, n_cl (a := m + 1) (by omega), pb]
  by_cases k4 : k ≤ 4
  · rw [if_pos (le4_k k (by omega))]
    by_cases k2 : k = 2
    · rw [if_pos ((eq2_k k (by omega)).mpr k2), st1, k2]
      rfl
    · rw [if_neg (fun q => k2 ((eq2_k k (by omega)).mp q))]
      by_cases k3 : k = 3
      · rw [if_pos ((eq3_k k (by omega)).mpr k3), st1, k3]
        rfl
      · rw [if_neg (fun q => k3 ((eq3_k k (by omega)).mp q)), st1, show k = 4 by omega]
        rfl
  · rw [if_neg (gt4_k k (by omega) (by omega))]
    by_cases b0 : b = nI 0
    · have b0' : b = (0 : Int32) := b0
      rw [if_pos b0', show (0 : Int32) = nI 0 from rfl, st2]
      unfold opV
      rw [if_neg (by omega), if_neg (by omega), if_neg (by omega), if_pos b0]
    · have b0' : ¬ b = (0 : Int32) := b0
      rw [if_neg b0']
      by_cases k5 : k = 5
      · rw [if_pos ((eq5_k k (by omega)).mpr k5), if_pos b0', st2]
        unfold opV
        rw [if_neg (by omega), if_neg (by omega), if_neg (by omega), if_neg b0, if_pos k5]
      · rw [if_neg (fun q => k5 ((eq5_k k (by omega)).mp q)), if_pos b0', st2]
        unfold opV
        rw [if_neg (by omega), if_neg (by omega), if_neg (by omega), if_neg b0, if_neg k5]
end
theorem t_termOf {F : Nat} (hF : 1000 < F) {c0 : Nat} {vr : Nat → Int32} {cd : Cd} {v : Int32} (hr : runR vr cd [] = [v]) (ok : okC cd) (hb : c0 + cd.length ≤ 400) {τ : St} (h : cdR (τ.2.1 13) (τ.2.1 14) c0 cd) (hv : ∀ i, i < 6 → τ.2.1 16 i = vr i) : ∃ f, f_X8_termOf F τ (nI c0) (nI (c0 + cd.length)) = some (v, sw τ 17 f) := by
  have key : ∀ (n : Nat) (c2 c1 : Cd) (p : Nat → Int32), cd = c2 ++ c1 → c2.length < n → plR p (runR vr c1 []) → ∃ f, f_X8_termOf_5 F n (sw τ 17 p) (nI (c0 + cd.length)) (nI (runR vr c1 []).length) (nI (c0 + c1.length)) = some (v, sw τ 17 f) := by
    intro n
    induction n with
    | zero => intro c2 c1 p _ h; omega
    | succ n ih =>
      intro c2 c1 p he hn hp
      rcases lst_c c2 with h0 | ⟨L, x, h0⟩
      · subst h0
        have he : cd = c1 := he
        subst he
        refine ⟨p, ?_⟩
        have p0 : p 0 = v := by
          rw [hr] at hp
          exact hp.1
        have e1 : (sw τ 17 p).2.1 17 0 = v := by rw [sw_at]; exact p0
        rw [f_X8_termOf_5]
        simp (disch := omega) only [↓bnd_i, ↓cal_s, ↓cal_n, ↓cal2_s, ↓cal2_n, cal_s, cal2_s, ↓reduceIte, fa_lit, m1_lit, m2_lit, m1_lt, m2_lt, m1_eq, m2_eq, m1_le, m2_le, le_m1, le_m2, lt_m1, lt_m2, m12, m21, m1_m1, n_lt, n_le, n_eq, lt_t, lt_f, le_t, le_f, eq_t, eq_f, n_cl, inb_ok, n_add, pk_mul, pk_sub, n_rem, n_div, n_dec, n_mx, n_mn, eq_m1, eq_m2, ss_same, ss_ne, ss_r, ss_l, sr_f, sr_l, sr_same, sr_ne, sw_f, sw_l, sw_at, sw_ne, pk_us, pk_un, bI_t, bI_f, not_true_eq_false, not_false_eq_true, eq_self, and_true, true_and, and_false, false_and, or_true, true_or, or_false, false_or, decide_true, decide_false, Bool.false_eq_true, Bool.true_eq_false, p0]
      · have he' : cd = L ++ (x :: c1) := by rw [he, h0]; simp
        have hl : cd.length = L.length + (c1.length + 1) := by rw [he']; simp
        have hl2 : c2.length = L.length + 1 := by rw [h0]; simp
        have hc := cdR_app (L := L) (M := x :: c1) (by rw [← he']; exact h)
        have hk := okC_app (L := L) (M := x :: c1) (by rw [← he']; exact ok)
        obtain ⟨q1, q2, -⟩ := hc
        obtain ⟨l1, l2⟩ := run_len (vr := vr) hk.1
        have r13 : (sw τ 17 p).2.1 13 (c0 + c1.length) = nI x.1 := by rw [sw_ne (by omega)]; exact q1
        have r14 : (sw τ 17 p).2.1 14 (c0 + c1.length) = nI x.2 := by rw [sw_ne (by omega)]; exact q2
        have nxt : ∀ (i : Nat) (w : Int32), plR (upd p i w) (runR vr (x :: c1) []) → ∃ f, f_X8_termOf_5 F n (sr (sw τ 17 p) 17 i w) (nI (c0 + cd.length)) (nI (runR vr (x :: c1) []).length) (nI (c0 + c1.length + 1)) = some (v, sw τ 17 f) := by
          intro i w hpl
          rw [sr_sw]
          exact ih L (x :: c1) (upd p i w) he' (by omega) hpl
        rcases hk.2 with k0 | ⟨k1, k2⟩ | ⟨k1, k2, k3⟩
        · have hrun : runR vr (x :: c1) [] = nI x.2 :: runR vr c1 [] := by rw [runR]; unfold apC; rw [if_pos k0]
          obtain ⟨f, g⟩ := nxt (runR vr c1 []).length (nI x.2) (by rw [hrun]; exact ⟨pk_us, plR_upd (Nat.le_refl _) hp⟩)
          rw [hrun] at g
          have g' : f_X8_termOf_5 F n (sr (sw τ 17 p) 17 (runR vr c1 []).length (nI x.2)) (nI (c0 + cd.length)) (nI ((runR vr c1 []).length + 1)) (nI (c0 + c1.length + 1)) = _ := g
          refine ⟨f, ?_⟩
          rw [k0] at r13
          rw [f_X8_termOf_5]
          simp (disch := omega) only [↓bnd_i, ↓cal_s, ↓cal_n, ↓cal2_s, ↓cal2_n, cal_s, cal2_s, ↓reduceIte, fa_lit, m1_lit, m2_lit, m1_lt, m2_lt, m1_eq, m2_eq, m1_le, m2_le, le_m1, le_m2, lt_m1, lt_m2, m12, m21, m1_m1, n_lt, n_le, n_eq, lt_t, lt_f, le_t, le_f, eq_t, eq_f, n_cl, inb_ok, n_add, pk_mul, pk_sub, n_rem, n_div, n_dec, n_mx, n_mn, eq_m1, eq_m2, ss_same, ss_ne, ss_r, ss_l, sr_f, sr_l, sr_same, sr_ne, sw_f, sw_l, sw_at, sw_ne, pk_us, pk_un, bI_t, bI_f, not_true_eq_false, not_false_eq_true, eq_self, and_true, true_and, and_false, false_and, or_true, true_or, or_false, false_or, decide_true, decide_false, Bool.false_eq_true, Bool.true_eq_false, q1, q2, k0, f_X8_termOf_58, f_X8_termOf_172]
          exact g'
        · have hrun : runR vr (x :: c1) [] = vr x.2 :: runR vr c1 [] := by rw [runR]; unfold apC; rw [if_neg (by omega), if_pos k1]
          obtain ⟨f, g⟩ := nxt (runR vr c1 []).length (vr x.2) (by rw [hrun]; exact ⟨pk_us, plR_upd (Nat.le_refl _) hp⟩)
          rw [hrun] at g
          have g' : f_X8_termOf_5 F n (sr (sw τ 17 p) 17 (runR vr c1 []).length (vr x.2)) (nI (c0 + cd.length)) (nI ((runR vr c1 []).length + 1)) (nI (c0 + c1.length + 1)) = _ := g
          have hv' := hv x.2 k2
          refine ⟨f, ?_⟩
          rw [f_X8_termOf_5]
          simp (disch := omega) only [↓bnd_i, ↓cal_s, ↓cal_n, ↓cal2_s, ↓cal2_n, cal_s, cal2_s, ↓reduceIte, fa_lit, m1_lit, m2_lit, m1_lt, m2_lt, m1_eq, m2_eq, m1_le, m2_le, le_m1, le_m2, lt_m1, lt_m2, m12, m21, m1_m1, n_lt, n_le, n_eq, lt_t, lt_f, le_t, le_f, eq_t, eq_f, n_cl, inb_ok, n_add, pk_mul, pk_sub, n_rem, n_div, n_dec, n_mx, n_mn, eq_m1, eq_m2, ss_same, ss_ne, ss_r, ss_l, sr_f, sr_l, sr_same, sr_ne, sw_f, sw_l, sw_at, sw_ne, pk_us, pk_un, bI_t, bI_f, not_true_eq_false, not_false_eq_true, eq_self, and_true, true_and, and_false, false_and, or_true, true_or, or_false, false_or, decide_true, decide_false, Bool.false_eq_true, Bool.true_eq_false, q1, q2, k1, hv', f_X8_termOf_58, f_X8_termOf_172]
          exact g'
        · cases hs : runR vr c1 [] with
          | nil => rw [hs] at l1; have l1 : 0 = htC c1 := l1; omega
          | cons b s =>
            cases s with
            | nil => rw [hs] at l1; have l1 : 1 = htC c1 := l1; omega
            | cons a s =>
              rw [hs] at l1 hp
              have l1 : s.length + 1 + 1 = htC c1 := l1
              have pb : p (s.length + 1) = b := hp.1
              have pa : p s.length = a := hp.2.1
              have hrun : runR vr (x :: c1) [] = opV x.1 a b :: s := by rw [runR, hs]; unfold apC; rw [if_neg (by omega), if_neg (by omega)]
              obtain ⟨f, g⟩ := nxt s.length (opV x.1 a b) (by rw [hrun]; exact ⟨pk_us, plR_upd (Nat.le_refl _) hp.2.2⟩)
              rw [hrun] at g
              have g' : f_X8_termOf_5 F n (sr (sw τ 17 p) 17 s.length (opV x.1 a b)) (nI (c0 + cd.length)) (nI (s.length + 1)) (nI (c0 + c1.length + 1)) = _ := g
              refine ⟨f, ?_⟩
              have ta : (sw τ 17 p).2.1 17 s.length = a := by rw [sw_at]; exact pa
              have tb : (sw τ 17 p).2.1 17 (s.length + 1) = b := by rw [sw_at]; exact pb
              show f_X8_termOf_5 F (n + 1) (sw τ 17 p) (nI (c0 + cd.length)) (nI (s.length + 2)) (nI (c0 + c1.length)) = _
              rw [tm_op r13 k1 k2 (by omega) hb (by omega) ta tb]
              exact g'
  obtain ⟨f, g⟩ := key F cd [] (τ.2.1 17) (by simp) (by omega) trivial
  rw [sw_self] at g
  exact ⟨f, g⟩
