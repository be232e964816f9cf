/-! PURE: restore: a new line -/
theorem nar0 : vp_nar .byte (nI 0) = nI 0 := by decide +kernel
theorem nar1 : vp_nar .byte (nI 1) = nI 1 := by decide +kernel
def nlN (N : Nat → Int32) (n : Nat) (par fork at_ : Int32) : Nat → Int32 := upd (upd (upd (upd (upd N (20 + 4 * n) at_) (20 + 4 * n + 1) par) (20 + 4 * n + 2) fork) 3 (nI n)) 2 (nI (n + 1))
theorem nlN_out {N : Nat → Int32} {n j : Nat} {a b c : Int32} (h2 : j ≠ 2) (h3 : j ≠ 3) (h : j < 20 + 4 * n ∨ 20 + 4 * n + 2 < j) : nlN N n a b c j = N j := by
  unfold nlN
  rw [pk_un h2, pk_un h3, pk_un (by omega), pk_un (by omega), pk_un (by omega)]
theorem nlN_in {N : Nat → Int32} {n : Nat} {a b c : Int32} : nlN N n a b c (20 + 4 * n) = c ∧ nlN N n a b c (20 + 4 * n + 1) = a ∧ nlN N n a b c (20 + 4 * n + 2) = b ∧ nlN N n a b c 3 = nI n ∧ nlN N n a b c 2 = nI (n + 1) := by
  unfold nlN
  refine ⟨?_, ?_, ?_, ?_, ?_⟩
  · rw [pk_un (by omega), pk_un (by omega), pk_un (by omega), pk_un (by omega), pk_us]
  · rw [pk_un (by omega), pk_un (by omega), pk_un (by omega), pk_us]
  · rw [pk_un (by omega), pk_un (by omega), pk_us]
  · rw [pk_un (by omega), pk_us]
  · rw [pk_us]
theorem t_newLine {F : Nat} {τ : St} {n : Nat} (h : τ.2.1 19 2 = nI n) (hn : n < 8) (a b c : Int32) : f_X8_newLine F τ a b c = some (sw τ 19 (nlN (nw τ) n a b c)) := by
  unfold f_X8_newLine
  simp (disch := omega) only [↓bnd_i, ↓cal_s, ↓cal_n, ↓cal2_s, ↓cal2_n, cal_s, cal2_s, ↓reduceIte, fa_lit, m1_lit, m2_lit, m1_lt, m2_lt, m1_eq, m2_eq, m1_le, m2_le, le_m1, le_m2, lt_m1, lt_m2, m12, m21, m1_m1, n_lt, n_le, n_eq, lt_t, lt_f, le_t, le_f, eq_t, eq_f, n_cl, inb_ok, n_add, pk_mul, pk_sub, n_rem, n_div, n_dec, n_mx, n_mn, eq_m1, eq_m2, ss_same, ss_ne, ss_r, ss_l, sr_f, sr_l, sr_same, sr_ne, sw_f, sw_l, sw_at, sw_ne, pk_us, pk_un, bI_t, bI_f, not_true_eq_false, not_false_eq_true, eq_self, and_true, true_and, and_false, false_and, or_true, true_or, or_false, false_or, decide_true, decide_false, Bool.false_eq_true, Bool.true_eq_false, h]
  simp only [sr_as, sw_at, sw_sw]
  have e : upd (upd (upd (τ.2.1 19) (20 + 4 * n) c) (20 + 4 * n + 1) a) (20 + 4 * n + 2) b 2 = nI n := by
    rw [pk_un (by omega), pk_un (by omega), pk_un (by omega)]; exact h
  have e' : upd (upd (upd (upd (τ.2.1 19) (20 + 4 * n) c) (20 + 4 * n + 1) a) (20 + 4 * n + 2) b) 3 (nI n) 2 = nI n := by
    rw [pk_un (by omega)]; exact e
  rfl
section
variable {N : Nat → Int32} {l p : Nat}
theorem nl_acc (h : NN N) (hn : nl N < 8) (hl : l < nl N) (hp : p ≤ tp N l) : pg (nlN N (nl N) (nI l) (nI p) (nI p)) = pg N ∧ wd (nlN N (nl N) (nI l) (nI p) (nI p)) = wd N ∧ nl (nlN N (nl N) (nI l) (nI p) (nI p)) = nl N + 1 ∧ md (nlN N (nl N) (nI l) (nI p) (nI p)) = md N ∧ nc (nlN N (nl N) (nI l) (nI p) (nI p)) = nc N := by
  unfold pg wd md nc
  rw [nlN_out (by omega) (by omega) (by omega), nlN_out (by omega) (by omega) (by omega), nlN_out (by omega) (by omega) (by omega), nlN_out (by omega) (by omega) (by omega)]
  refine ⟨rfl, rfl, ?_, rfl, rfl⟩
  unfold nl
  rw [nlN_in.2.2.2.2, n_cl (by have := hn; unfold nl at this; omega)]
theorem nl_tp (h : NN N) (hl : l < nl N) (hp : p ≤ tp N l) (k : Nat) : tp (nlN N (nl N) (nI l) (nI p) (nI p)) k = if k = nl N then p else tp N k := by
  have ht := (h.2.1.1 l hl).2
  by_cases c : k = nl N
  · rw [if_pos c]; unfold tp; rw [c, nlN_in.1, n_cl (by omega)]
  · rw [if_neg c]; unfold tp; rw [nlN_out (by omega) (by omega) (by omega)]
theorem nl_pr (hl8 : l < 8) (k : Nat) : pr (nlN N (nl N) (nI l) (nI p) (nI p)) k = if k = nl N then l else pr N k := by
  by_cases c : k = nl N
  · rw [if_pos c]; unfold pr; rw [c, nlN_in.2.1, n_cl (by omega)]
  · rw [if_neg c]; unfold pr; rw [nlN_out (by omega) (by omega) (by omega)]
theorem nl_fk (h : NN N) (hl : l < nl N) (hp : p ≤ tp N l) (k : Nat) : fk (nlN N (nl N) (nI l) (nI p) (nI p)) k = if k = nl N then p else fk N k := by
  have ht := (h.2.1.1 l hl).2
  by_cases c : k = nl N
  · rw [if_pos c]; unfold fk; rw [c, nlN_in.2.2.1, n_cl (by omega), if_neg (by omega)]
  · rw [if_neg c]; unfold fk; rw [nlN_out (by omega) (by omega) (by omega)]
theorem nl_kp {k' k : Nat} (hn : nl N < 8) : kp (nlN N (nl N) (nI l) (nI p) (nI p)) k' k = kp N k' k := by
  unfold kp; rw [nlN_out (by omega) (by omega) (by omega)]
theorem nl_sm (h : NN N) (hl : l < nl N) (hp : p ≤ tp N l) : ∀ k, k ≤ nl N → sm (nlN N (nl N) (nI l) (nI p) (nI p)) k = sm N k := by
  intro k
  induction k with
  | zero => intro _; rfl
  | succ k ih =>
    intro hk
    simp only [sm]
    rw [ih (by omega), nl_tp h hl hp, nl_fk h hl hp, if_neg (by omega), if_neg (by omega)]
theorem nl_x (hn : nl N < 8) : (∀ c, c < 10 → co (nlN N (nl N) (nI l) (nI p) (nI p)) c = co N c ∧ cd (nlN N (nl N) (nI l) (nI p) (nI p)) c = cd N c) ∧ (∀ c g, tk (nlN N (nl N) (nI l) (nI p) (nI p)) c g = tk N c g ∧ tl (nlN N (nl N) (nI l) (nI p) (nI p)) c g = tl N c g ∧ tw (nlN N (nl N) (nI l) (nI p) (nI p)) c g = tw N c g) := by
  unfold co cd tk tl tw
  refine ⟨fun c hc => ?_, fun c g => ?_⟩
  · rw [nlN_out (by omega) (by omega) (by omega), nlN_out (by omega) (by omega) (by omega)]; exact ⟨rfl, rfl⟩
  · rw [nlN_out (by omega) (by omega) (by omega), nlN_out (by omega) (by omega) (by omega), nlN_out (by omega) (by omega) (by omega)]; exact ⟨rfl, rfl, rfl⟩
theorem NN_nl (h : NN N) (hn : nl N < 8) (hl : l < nl N) (hp : p ≤ tp N l) : NN (nlN N (nl N) (nI l) (nI p) (nI p)) := by
  obtain ⟨b1, b2, b3, b4, b5, b6, b7, b8⟩ := NNb h
  obtain ⟨q1, q2, q3, q4, q5⟩ := nl_acc h hn hl hp
  obtain ⟨x1, x2⟩ := nl_x (N := N) (l := l) (p := p) hn
  have ht := (h.2.1.1 l hl).2
  obtain ⟨h1, h2, h3, h4, h5⟩ := h
  have h : NN N := ⟨h1, h2, h3, h4, h5⟩
  refine ⟨?_, ?_, ?_, ?_, ?_⟩
  · obtain ⟨⟨a1, -⟩, ⟨a2, -⟩, ⟨a3, -⟩, a4, ⟨a5, -⟩, ⟨a6, -⟩, t, ht, a7⟩ := h1
    unfold N1
    rw [q1, q2, q3, q4, q5, nlN_in.2.2.2.1, nlN_in.2.2.2.2]
    refine ⟨⟨?_, b1, b2⟩, ⟨?_, b3, b4⟩, ⟨rfl, by omega, by omega⟩, rfl, ⟨?_, b7⟩, ⟨?_, b8⟩, t, ht, ?_⟩
    · rw [nlN_out (by omega) (by omega) (by omega), a1]
    · rw [nlN_out (by omega) (by omega) (by omega), a2]
    · rw [nlN_out (by omega) (by omega) (by omega), a5]
    · rw [nlN_out (by omega) (by omega) (by omega), a6]
    · rw [nlN_out (by omega) (by omega) (by omega), a7]
  · unfold N2
    rw [q3]
    refine ⟨fun k hk => ?_, fun k h0 hk => ?_, ?_, ?_⟩
    · rw [nl_tp h hl hp]
      by_cases c : k = nl N
      · rw [if_pos c, c, nlN_in.1]; exact ⟨rfl, by omega⟩
      · rw [if_neg c, nlN_out (by omega) (by omega) (by omega)]; exact h2.1 k (by omega)
    · rw [nl_pr (by omega), nl_fk h hl hp, nl_tp h hl hp, nl_tp h hl hp]
      by_cases c : k = nl N
      · rw [if_pos c, if_pos c, if_pos c, c, nlN_in.2.1, nlN_in.2.2.1, if_neg (by omega)]
        exact ⟨rfl, hl, rfl, Nat.le_refl _, hp⟩
      · obtain ⟨c1, c2, c3, c4, c5⟩ := h2.2.1 k h0 (by omega)
        rw [if_neg c, if_neg c, if_neg c, nlN_out (by omega) (by omega) (by omega), nlN_out (by omega) (by omega) (by omega), if_neg (by omega)]
        exact ⟨c1, c2, c3, c4, c5⟩
    · rw [nlN_out (by omega) (by omega) (by omega)]; exact h2.2.2.1
    · rw [nlN_out (by omega) (by omega) (by omega)]; exact h2.2.2.2
  · unfold N3
    rw [q3]
    refine ⟨fun l' k hl' hk => ?_, fun l' k hn' hl' hk => ?_⟩
    · rw [nl_kp hn, nlN_out (by omega) (by omega) (by omega)]; exact h3.1 l' k hl' hk
    · rw [nl_kp hn]; exact h3.2 l' k (by omega) hl' hk
  · intro l' p' hl' hp1 hp2
    rw [q3] at hl'
    rw [nl_fk h hl hp] at hp1
    rw [nl_tp h hl hp] at hp2
    rw [q1]
    by_cases c : l' = nl N
    · rw [if_pos c] at hp1 hp2; omega
    · rw [if_neg c] at hp1 hp2
      unfold ra
      rw [nlN_out (by omega) (by omega) (by omega), nlN_out (by omega) (by omega) (by omega)]
      exact h4 l' p' (by omega) hp1 hp2
  · intro c hc
    rw [q5] at hc
    obtain ⟨c1, c2, c3, c4⟩ := h5 c hc
    rw [q1, (x1 c (by omega)).1, (x1 c (by omega)).2, nlN_out (by omega) (by omega) (by omega), nlN_out (by omega) (by omega) (by omega), nlN_out (by omega) (by omega) (by omega)]
    refine ⟨c1, c2, c3, fun g hg => ?_⟩
    rw [(x2 c g).1, (x2 c g).2.1, (x2 c g).2.2, nlN_out (by omega) (by omega) (by omega), nlN_out (by omega) (by omega) (by omega), nlN_out (by omega) (by omega) (by omega)]
    exact c4 g hg
end
/-! the desk -/
def clS (n : Nat) (f : Nat → Int32) : Nat → Int32 := fun i => if n * 120 ≤ i ∧ i < n * 120 + 120 then nI 0 else f i
def brS (σ : St) (n : Nat) (x y : Int32) : St := sw (sr (sr (sr (sr (ss σ 6 (nI (n + 1))) 11 n x) 12 n y) 13 n y) 14 n (σ.1 7)) 18 (clS n (σ.2.1 18))
theorem d_branch_66 {F : Nat} {l : Nat} (hl : l < 8) : ∀ (n k : Nat) (t : St), k ≤ 120 → 120 - k < n → f_X2_branch_66 F n t (nI l) (nI k) = some (sw t 18 (fun i => if l * 120 + k ≤ i ∧ i < l * 120 + 120 then nI 0 else t.2.1 18 i)) := by
  intro n
  induction n with
  | zero => intro k t _ h; omega
  | succ n ih =>
    intro k t hk hn
    rw [f_X2_branch_66]
    by_cases c : k = 120
    · have e : (fun i => if l * 120 + k ≤ i ∧ i < l * 120 + 120 then nI 0 else t.2.1 18 i) = t.2.1 18 := by
        funext i
        rw [if_neg (by omega)]
      rw [e, sw_self]
      simp (disch := omega) only [↓bnd_i, ↓cal_s, ↓cal_n, ↓cal2_s, ↓cal2_n, cal_s, cal2_s, ↓reduceIte, fa_lit, m1_lit, m2_lit, m1_lt, m2_lt, m1_eq, m2_eq, m1_le, m2_le, le_m1, le_m2, lt_m1, lt_m2, m12, m21, m1_m1, n_lt, n_le, n_eq, lt_t, lt_f, le_t, le_f, eq_t, eq_f, n_cl, inb_ok, n_add, pk_mul, pk_sub, n_rem, n_div, n_dec, n_mx, n_mn, eq_m1, eq_m2, ss_same, ss_ne, ss_r, ss_l, sr_f, sr_l, sr_same, sr_ne, sw_f, sw_l, sw_at, sw_ne, pk_us, pk_un, bI_t, bI_f, not_true_eq_false, not_false_eq_true, eq_self, and_true, true_and, and_false, false_and, or_true, true_or, or_false, false_or, decide_true, decide_false, Bool.false_eq_true, Bool.true_eq_false]
    · have ih' := ih (k + 1) (sr t 18 (l * 120 + k) (nI 0)) (by omega) (by omega)
      simp (disch := omega) only [↓bnd_i, ↓cal_s, ↓cal_n, ↓cal2_s, ↓cal2_n, cal_s, cal2_s, ↓reduceIte, fa_lit, m1_lit, m2_lit, m1_lt, m2_lt, m1_eq, m2_eq, m1_le, m2_le, le_m1, le_m2, lt_m1, lt_m2, m12, m21, m1_m1, n_lt, n_le, n_eq, lt_t, lt_f, le_t, le_f, eq_t, eq_f, n_cl, inb_ok, n_add, pk_mul, pk_sub, n_rem, n_div, n_dec, n_mx, n_mn, eq_m1, eq_m2, ss_same, ss_ne, ss_r, ss_l, sr_f, sr_l, sr_same, sr_ne, sw_f, sw_l, sw_at, sw_ne, pk_us, pk_un, bI_t, bI_f, not_true_eq_false, not_false_eq_true, eq_self, and_true, true_and, and_false, false_and, or_true, true_or, or_false, false_or, decide_true, decide_false, Bool.false_eq_true, Bool.true_eq_false, nar0]
      rw [ih', sr_as, sw_sw]
      congr 2
      funext i
      rw [sw_at]
      by_cases d : i = l * 120 + k
      · subst d
        rw [if_neg (by omega), if_pos (by omega), pk_us]
      · rw [pk_un d]
        by_cases d2 : l * 120 + k ≤ i ∧ i < l * 120 + 120
        · rw [if_pos d2, if_pos (by omega)]
        · rw [if_neg d2, if_neg (by omega)]
theorem d_branch {F : Nat} (hF : 300 < F) {σ : St} {n : Nat} (h6 : σ.1 6 = nI n) (hn : n < 8) (x y : Int32) : f_X2_branch F σ x y = some (brS σ n x y) := by
  have k := d_branch_66 (F := F) hn F 0 (sr (sr (sr (sr (ss σ 6 (nI (n + 1))) 11 n x) 12 n y) 13 n y) 14 n (σ.1 7)) (by omega) (by omega)
  unfold f_X2_branch
  simp (disch := omega) only [↓bnd_i, ↓cal_s, ↓cal_n, ↓cal2_s, ↓cal2_n, cal_s, cal2_s, ↓reduceIte, fa_lit, m1_lit, m2_lit, m1_lt, m2_lt, m1_eq, m2_eq, m1_le, m2_le, le_m1, le_m2, lt_m1, lt_m2, m12, m21, m1_m1, n_lt, n_le, n_eq, lt_t, lt_f, le_t, le_f, eq_t, eq_f, n_cl, inb_ok, n_add, pk_mul, pk_sub, n_rem, n_div, n_dec, n_mx, n_mn, eq_m1, eq_m2, ss_same, ss_ne, ss_r, ss_l, sr_f, sr_l, sr_same, sr_ne, sw_f, sw_l, sw_at, sw_ne, pk_us, pk_un, bI_t, bI_f, not_true_eq_false, not_false_eq_true, eq_self, and_true, true_and, and_false, false_and, or_true, true_or, or_false, false_or, decide_true, decide_false, Bool.false_eq_true, Bool.true_eq_false, h6]
  rw [k]
  unfold brS clS
  congr 2
theorem Fr.brS {σ σ' : St} {n : Nat} {x y : Int32} (h : Fr σ σ') : Fr σ (brS σ' n x y) := by
  have e := ((((h.ss (k := 6) (v := nI (n + 1)) (by omega) (by omega)).sr (a := 11) (i := n) (v := x) (by omega) (by omega)).sr (a := 12) (i := n) (v := y) (by omega) (by omega)).sr (a := 13) (i := n) (v := y) (by omega) (by omega)).sr (a := 14) (i := n) (v := σ'.1 7) (by omega) (by omega)
  exact ⟨e.1, fun r hr => (sw_ne (by omega)).trans (e.2.1 r hr), e.2.2⟩
theorem brS_f {σ : St} {n k : Nat} {x y : Int32} (h : k ≠ 6) : (brS σ n x y).1 k = σ.1 k := by
  unfold brS
  simp (disch := omega) only [↓bnd_i, ↓cal_s, ↓cal_n, ↓cal2_s, ↓cal2_n, cal_s, cal2_s, ↓reduceIte, fa_lit, m1_lit, m2_lit, m1_lt, m2_lt, m1_eq, m2_eq, m1_le, m2_le, le_m1, le_m2, lt_m1, lt_m2, m12, m21, m1_m1, n_lt, n_le, n_eq, lt_t, lt_f, le_t, le_f, eq_t, eq_f, n_cl, inb_ok, n_add, pk_mul, pk_sub, n_rem, n_div, n_dec, n_mx, n_mn, eq_m1, eq_m2, ss_same, ss_ne, ss_r, ss_l, sr_f, sr_l, sr_same, sr_ne, sw_f, sw_l, sw_at, sw_ne, pk_us, pk_un, bI_t, bI_f, not_true_eq_false, not_false_eq_true, eq_self, and_true, true_and, and_false, false_and, or_true, true_or, or_false, false_or, decide_true, decide_false, Bool.false_eq_true, Bool.true_eq_false]
theorem brS_6 {σ : St} {n : Nat} {x y : Int32} : (brS σ n x y).1 6 = nI (n + 1) := by
  unfold brS
  simp (disch := omega) only [↓bnd_i, ↓cal_s, ↓cal_n, ↓cal2_s, ↓cal2_n, cal_s, cal2_s, ↓reduceIte, fa_lit, m1_lit, m2_lit, m1_lt, m2_lt, m1_eq, m2_eq, m1_le, m2_le, le_m1, le_m2, lt_m1, lt_m2, m12, m21, m1_m1, n_lt, n_le, n_eq, lt_t, lt_f, le_t, le_f, eq_t, eq_f, n_cl, inb_ok, n_add, pk_mul, pk_sub, n_rem, n_div, n_dec, n_mx, n_mn, eq_m1, eq_m2, ss_same, ss_ne, ss_r, ss_l, sr_f, sr_l, sr_same, sr_ne, sw_f, sw_l, sw_at, sw_ne, pk_us, pk_un, bI_t, bI_f, not_true_eq_false, not_false_eq_true, eq_self, and_true, true_and, and_false, false_and, or_true, true_or, or_false, false_or, decide_true, decide_false, Bool.false_eq_true, Bool.true_eq_false]
theorem brS_r {σ : St} {n : Nat} {x y : Int32} : (brS σ n x y).2.1 11 = upd (σ.2.1 11) n x ∧ (brS σ n x y).2.1 12 = upd (σ.2.1 12) n y ∧ (brS σ n x y).2.1 13 = upd (σ.2.1 13) n y ∧ (brS σ n x y).2.1 14 = upd (σ.2.1 14) n (σ.1 7) ∧ (brS σ n x y).2.1 18 = clS n (σ.2.1 18) := by
  unfold brS
  refine ⟨?_, ?_, ?_, ?_, ?_⟩ <;> simp (disch := omega) only [↓bnd_i, ↓cal_s, ↓cal_n, ↓cal2_s, ↓cal2_n, cal_s, cal2_s, ↓reduceIte, fa_lit, m1_lit, m2_lit, m1_lt, m2_lt, m1_eq, m2_eq, m1_le, m2_le, le_m1, le_m2, lt_m1, lt_m2, m12, m21, m1_m1, n_lt, n_le, n_eq, lt_t, lt_f, le_t, le_f, eq_t, eq_f, n_cl, inb_ok, n_add, pk_mul, pk_sub, n_rem, n_div, n_dec, n_mx, n_mn, eq_m1, eq_m2, ss_same, ss_ne, ss_r, ss_l, sr_f, sr_l, sr_same, sr_ne, sw_f, sw_l, sw_at, sw_ne, pk_us, pk_un, bI_t, bI_f, not_true_eq_false, not_false_eq_true, eq_self, and_true, true_and, and_false, false_and, or_true, true_or, or_false, false_or, decide_true, decide_false, Bool.false_eq_true, Bool.true_eq_false]
theorem brS_o {σ : St} {n r : Nat} {x y : Int32} (h : r < 11 ∨ (14 < r ∧ r ≠ 18)) : (brS σ n x y).2.1 r = σ.2.1 r := by
  unfold brS
  simp (disch := omega) only [↓bnd_i, ↓cal_s, ↓cal_n, ↓cal2_s, ↓cal2_n, cal_s, cal2_s, ↓reduceIte, fa_lit, m1_lit, m2_lit, m1_lt, m2_lt, m1_eq, m2_eq, m1_le, m2_le, le_m1, le_m2, lt_m1, lt_m2, m12, m21, m1_m1, n_lt, n_le, n_eq, lt_t, lt_f, le_t, le_f, eq_t, eq_f, n_cl, inb_ok, n_add, pk_mul, pk_sub, n_rem, n_div, n_dec, n_mx, n_mn, eq_m1, eq_m2, ss_same, ss_ne, ss_r, ss_l, sr_f, sr_l, sr_same, sr_ne, sw_f, sw_l, sw_at, sw_ne, pk_us, pk_un, bI_t, bI_f, not_true_eq_false, not_false_eq_true, eq_self, and_true, true_and, and_false, false_and, or_true, true_or, or_false, false_or, decide_true, decide_false, Bool.false_eq_true, Bool.true_eq_false]
theorem clS_in {n : Nat} {f : Nat → Int32} {k : Nat} (hk : k < 120) : clS n f (120 * n + k) = nI 0 := if_pos (by omega)
theorem clS_out {n : Nat} {f : Nat → Int32} {l k : Nat} (hk : k < 120) (h : l ≠ n) : clS n f (120 * l + k) = f (120 * l + k) := if_neg (by omega)
theorem JJ_nl {σ : St} {N : Nat → Int32} (h : NN N) (j : JJ σ N) {l p : Nat} (hn : nl N < 8) (hl : l < nl N) (hp : p ≤ tp N l) : JJ (brS σ (nl N) (nI l) (nI p)) (nlN N (nl N) (nI l) (nI p) (nI p)) := by
  obtain ⟨b1, b2, b3, b4, b5, b6, b7, b8⟩ := NNb h
  obtain ⟨q1, q2, q3, q4, q5⟩ := nl_acc h hn hl hp
  obtain ⟨x1, x2⟩ := nl_x (N := N) (l := l) (p := p) hn
  obtain ⟨e4, e5, e6, e7, e8⟩ := JJf h j
  have ht := (h.2.1.1 l hl).2
  obtain ⟨r11, r12, r13, r14, r18⟩ := brS_r (σ := σ) (n := nl N) (x := nI l) (y := nI p)
  obtain ⟨⟨⟨a0, a1, a2, a3, a4⟩, al, ap, am⟩, ⟨ar, ac, as, aq⟩, ⟨ao, ad, ax⟩⟩ := j
  refine ⟨⟨⟨?_, ?_, ?_, ?_, ?_⟩, ?_, ?_, ?_⟩, ⟨?_, ?_, ?_, ?_⟩, ⟨?_, ?_, ?_⟩⟩
  · rw [brS_f (by omega), nlN_out (by omega) (by omega) (by omega)]; exact a0
  · rw [brS_f (by omega), nlN_out (by omega) (by omega) (by omega)]; exact a1
  · rw [brS_6, nlN_in.2.2.2.2]
  · rw [brS_f (by omega), nlN_out (by omega) (by omega) (by omega)]; exact a3
  · rw [brS_f (by omega), nlN_out (by omega) (by omega) (by omega)]; exact a4
  · intro k hk
    rw [q3] at hk
    rw [r11, r12, r13, r14, nl_tp h hl hp, nl_fk h hl hp, nl_pr (by omega), nl_sm h hl hp k (by omega)]
    by_cases c : k = nl N
    · rw [if_pos c, if_pos c, if_pos c, c, pk_us, pk_us, pk_us, pk_us, e7, am]
      exact ⟨rfl, rfl, rfl, fun _ => rfl⟩
    · rw [if_neg c, if_neg c, if_neg c, pk_un c, pk_un c, pk_un c, pk_un c]
      exact al k (by omega)
  · rw [r11, pk_un (by omega)]; exact ap
  · rw [q3, q4]
    simp only [sm]
    rw [nl_sm h hl hp _ (Nat.le_refl _), nl_tp h hl hp, nl_fk h hl hp, if_pos rfl, if_pos rfl, am]
    omega
  · intro l' p' hl' hp1 hp2
    rw [q3] at hl'
    rw [nl_fk h hl hp] at hp1 ⊢
    rw [nl_tp h hl hp] at hp2
    by_cases c : l' = nl N
    · rw [if_pos c] at hp1 hp2; omega
    · rw [if_neg c] at hp1 hp2 ⊢
      unfold ra
      rw [brS_o (by omega), brS_o (by omega), brS_o (by omega), nl_sm h hl hp l' (by omega), nlN_out (by omega) (by omega) (by omega), nlN_out (by omega) (by omega) (by omega), nlN_out (by omega) (by omega) (by omega)]
      exact ar l' p' (by omega) hp1 hp2
  · intro l' k hl' hk
    rw [q3] at hl'
    rw [r18, nl_kp hn]
    by_cases c : l' = nl N
    · rw [c, clS_in hk, h.2.2.1.2 (nl N) k (Nat.le_refl _) hn hk]
    · rw [clS_out hk c]; exact ac l' k (by omega) hk
  · intro i hi
    rw [brS_o (by omega)]; exact as i hi
  · intro i hi
    rw [r18]
    unfold clS
    split
    · exact ⟨0, by omega, rfl⟩
    · exact aq i hi
  · rw [brS_f (by omega), q5, ao]
    congr 1
    exact bs_cong (fun c hc => (x1 c (by omega)).1.symm)
  · rw [brS_f (by omega), q5, ad]
    congr 1
    exact bs_cong (fun c hc => (x1 c (by omega)).2.symm)
  · intro c hc
    rw [q5] at hc
    obtain ⟨y1, y2, y3, y4⟩ := ax c hc
    rw [brS_o (by omega), brS_o (by omega), brS_o (by omega), brS_o (by omega), brS_o (by omega), brS_o (by omega), nlN_out (by omega) (by omega) (by omega), nlN_out (by omega) (by omega) (by omega)]
    refine ⟨y1, y2, ?_, ?_⟩
    · rw [y3]
      congr 1
      exact bs_cong (fun g hg => (x2 c g).1.symm)
    · intro g hg hk
      rw [(x2 c g).1] at hk
      rw [(x2 c g).2.1, (x2 c g).2.2, nlN_out (by omega) (by omega) (by omega)]
      exact y4 g hg hk
theorem op_restore {F : Nat} (hF : 300 < F) {σ τ : St} (C : Core σ τ) (x y z : Int32) : Op σ τ (f_X7_restore F σ x y z) (f_X8_restore F τ x y z) := by
  obtain ⟨b1, b2, b3, b4, b5, b6, b7, b8⟩ := NNb C.1
  obtain ⟨e4, e5, e6, e7, e8⟩ := JJf C.1 C.2
  have h2 : τ.2.1 19 2 = nI (nl (nw τ)) := C.1.1.2.2.1.1
  unfold f_X7_restore f_X8_restore
  by_cases c : nl (nw τ) = 8
  · simp (disch := omega) only [↓bnd_i, ↓cal_s, ↓cal_n, ↓cal2_s, ↓cal2_n, cal_s, cal2_s, ↓reduceIte, fa_lit, m1_lit, m2_lit, m1_lt, m2_lt, m1_eq, m2_eq, m1_le, m2_le, le_m1, le_m2, lt_m1, lt_m2, m12, m21, m1_m1, n_lt, n_le, n_eq, lt_t, lt_f, le_t, le_f, eq_t, eq_f, n_cl, inb_ok, n_add, pk_mul, pk_sub, n_rem, n_div, n_dec, n_mx, n_mn, eq_m1, eq_m2, ss_same, ss_ne, ss_r, ss_l, sr_f, sr_l, sr_same, sr_ne, sw_f, sw_l, sw_at, sw_ne, pk_us, pk_un, bI_t, bI_f, not_true_eq_false, not_false_eq_true, eq_self, and_true, true_and, and_false, false_and, or_true, true_or, or_false, false_or, decide_true, decide_false, Bool.false_eq_true, Bool.true_eq_false, e6, h2]
    exact Op.same C _
  · obtain ⟨t, u, a1, c1, a2, a3, a4, a5, c2, c3, c4⟩ := both (F := F) hF C x y z
    have w0 := d_outcomeAt (F := F) C.1 a2 a4 a5 z
    have ol := ocx_le C.1 x y z
    by_cases o0 : ocx (nw τ) x y z = 0
    · obtain ⟨c', l, p, rfl, rfl, rfl, g⟩ := nd_gd C.1 (x := x) (y := y) (z := z) (by unfold nd; rw [o0]; decide)
      obtain ⟨g1, g2, g3, g4, g5, g6⟩ := g
      have h8 : nl (nw τ) < 8 := by omega
      have v1 := d_branch (F := F) hF (σ := t) (n := nl (nw τ)) (JJf C.1 a2).2.2.1 (by omega) (nI l) (nI p)
      have v2 := t_newLine (F := F) (τ := u) (n := nl (nw τ)) (by rw [show u.2.1 19 = τ.2.1 19 from c3]; exact h2) (by omega) (nI l) (nI p) (nI p)
      rw [o0] at w0 c1
      rw [c3] at v2
      simp (disch := omega) only [↓bnd_i, ↓cal_s, ↓cal_n, ↓cal2_s, ↓cal2_n, cal_s, cal2_s, ↓reduceIte, fa_lit, m1_lit, m2_lit, m1_lt, m2_lt, m1_eq, m2_eq, m1_le, m2_le, le_m1, le_m2, lt_m1, lt_m2, m12, m21, m1_m1, n_lt, n_le, n_eq, lt_t, lt_f, le_t, le_f, eq_t, eq_f, n_cl, inb_ok, n_add, pk_mul, pk_sub, n_rem, n_div, n_dec, n_mx, n_mn, eq_m1, eq_m2, ss_same, ss_ne, ss_r, ss_l, sr_f, sr_l, sr_same, sr_ne, sw_f, sw_l, sw_at, sw_ne, pk_us, pk_un, bI_t, bI_f, not_true_eq_false, not_false_eq_true, eq_self, and_true, true_and, and_false, false_and, or_true, true_or, or_false, false_or, decide_true, decide_false, Bool.false_eq_true, Bool.true_eq_false, ↓cal_w (a1), a1, ↓cal_w (w0), w0, ↓cal_w (v1), v1, ↓cal_w (v2), v2, ↓cal2_w (c1), c1, e6, h2]
      refine ⟨_, _, _, rfl, rfl, ?_, a3.brS, c2.sw (by omega) (by omega), ?_⟩
      · unfold Core nw
        rw [sw_at]
        exact ⟨NN_nl C.1 h8 g2 g3, JJ_nl C.1 a2 h8 g2 g3⟩
      · unfold nw
        rw [sw_at, nlN_out (by omega) (by omega) (by omega)]
    · simp (disch := omega) only [↓bnd_i, ↓cal_s, ↓cal_n, ↓cal2_s, ↓cal2_n, cal_s, cal2_s, ↓reduceIte, fa_lit, m1_lit, m2_lit, m1_lt, m2_lt, m1_eq, m2_eq, m1_le, m2_le, le_m1, le_m2, lt_m1, lt_m2, m12, m21, m1_m1, n_lt, n_le, n_eq, lt_t, lt_f, le_t, le_f, eq_t, eq_f, n_cl, inb_ok, n_add, pk_mul, pk_sub, n_rem, n_div, n_dec, n_mx, n_mn, eq_m1, eq_m2, ss_same, ss_ne, ss_r, ss_l, sr_f, sr_l, sr_same, sr_ne, sw_f, sw_l, sw_at, sw_ne, pk_us, pk_un, bI_t, bI_f, not_true_eq_false, not_false_eq_true, eq_self, and_true, true_and, and_false, false_and, or_true, true_or, or_false, false_or, decide_true, decide_false, Bool.false_eq_true, Bool.true_eq_false, ↓cal_w (a1), a1, ↓cal_w (w0), w0, ↓cal2_w (c1), c1, e6, h2]
      exact opA C a2 a3 c2 c3 _
