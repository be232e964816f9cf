/-! PURE: a new copy -/
def NewC (N M : Nat → Int32) (c : Nat) (l u o : Int32) : Prop := M 5 = nI (c + 1) ∧ M (60 + 4 * c) = l ∧ M (60 + 4 * c + 1) = u ∧ M (60 + 4 * c + 2) = o ∧ M (60 + 4 * c + 3) = nI 0 ∧ (∀ g, g < 8 → M (100 + 4 * (8 * c + g)) = nI 0) ∧ ∀ j, j ≠ 5 → (j < 60 + 4 * c ∨ 60 + 4 * c + 4 ≤ j) → (j < 100 + 32 * c ∨ 100 + 32 * c + 32 ≤ j) → M j = N j
theorem t_newCopyL {F c : Nat} (hc : c < 10) : ∀ (n x : Nat) (t : St), x ≤ 8 → 8 - x < n → ∃ M, f_X8_newCopy_58 F n t (nI c) (nI x) = some (nI c, sw t 19 M) ∧ M 5 = t.2.1 19 5 + nI 1 ∧ (∀ g, x ≤ g → g < 8 → M (100 + 4 * (8 * c + g)) = nI 0) ∧ ∀ j, j ≠ 5 → (∀ g, x ≤ g → g < 8 → j ≠ 100 + 4 * (8 * c + g)) → M j = t.2.1 19 j := by
  intro n
  induction n with
  | zero => intro x t _ h; omega
  | succ n ih =>
    intro x t hx hn
    rw [f_X8_newCopy_58]
    by_cases e : x = 8
    · subst e
      refine ⟨upd (t.2.1 19) 5 (t.2.1 19 5 + nI 1), ?_, pk_us, fun g h1 h2 => by omega, fun j hj _ => pk_un hj⟩
      simp (disch := omega) only [fa_lit, n_le, Nat.le_refl, if_true, bnd_i, sr_as]
    · obtain ⟨M, e1, e2, e3, e4⟩ := ih (x + 1) (sr t 19 (100 + 4 * (8 * c + x)) (nI 0)) (by omega) (by omega)
      refine ⟨M, ?_, ?_, ?_, ?_⟩
      · simp (disch := omega) only [↓bnd_i, ↓cal_s, ↓cal_n, ↓cal2_s, ↓cal2_n, cal_s, cal2_s, ↓reduceIte, fa_lit, m1_lit, m2_lit, m1_lt, m2_lt, m1_eq, m2_eq, m1_le, m2_le, le_m1, le_m2, lt_m1, lt_m2, m12, m21, m1_m1, n_lt, n_le, n_eq, lt_t, lt_f, le_t, le_f, eq_t, eq_f, n_cl, inb_ok, n_add, pk_mul, pk_sub, n_rem, n_div, n_dec, n_mx, n_mn, eq_m1, eq_m2, ss_same, ss_ne, ss_r, ss_l, sr_f, sr_l, sr_same, sr_ne, sw_f, sw_l, sw_at, sw_ne, pk_us, pk_un, bI_t, bI_f, not_true_eq_false, not_false_eq_true, eq_self, and_true, true_and, and_false, false_and, or_true, true_or, or_false, false_or, decide_true, decide_false, Bool.false_eq_true, Bool.true_eq_false, e1]
        rw [sr_as, sw_sw]
      · rw [e2, sr_same, pk_un (by omega)]
      · intro g h1 h2
        by_cases d : g = x
        · subst d
          rw [e4 _ (by omega) (fun g' h3 h4 => by omega), sr_same, pk_us]
        · exact e3 g (by omega) h2
      · intro j hj hg
        rw [e4 j hj (fun g h1 h2 => hg g (by omega) h2), sr_same, pk_un (hg x (by omega) (by omega))]
theorem t_newCopy {F : Nat} (hF : 20 < F) {τ : St} (h : NN (nw τ)) (hc : nc (nw τ) < 10) (l u o : Int32) : ∃ M, f_X8_newCopy F τ l u o = some (nI (nc (nw τ)), sw τ 19 M) ∧ NewC (nw τ) M (nc (nw τ)) l u o := by
  have h5 : τ.2.1 19 5 = nI (nc (nw τ)) := h.1.2.2.2.2.2.1.1
  generalize hcc : nc (nw τ) = c at *
  obtain ⟨M, e1, e2, e3, e4⟩ := t_newCopyL (F := F) hc F 0 (sr (sr (sr (sr τ 19 (60 + 4 * c) l) 19 (60 + 4 * c + 1) u) 19 (60 + 4 * c + 2) o) 19 (60 + 4 * c + 3) (nI 0)) (by omega) (by omega)
  simp only [sr_as, sw_at, sw_sw] at e1 e2 e4
  refine ⟨M, ?_, ?_, ?_, ?_, ?_, ?_, ?_, ?_⟩
  · unfold f_X8_newCopy
    simp (disch := omega) only [↓bnd_i, ↓cal_s, ↓cal_n, ↓cal2_s, ↓cal2_n, cal_s, cal2_s, ↓reduceIte, fa_lit, m1_lit, m2_lit, m1_lt, m2_lt, m1_eq, m2_eq, m1_le, m2_le, le_m1, le_m2, lt_m1, lt_m2, m12, m21, m1_m1, n_lt, n_le, n_eq, lt_t, lt_f, le_t, le_f, eq_t, eq_f, n_cl, inb_ok, n_add, pk_mul, pk_sub, n_rem, n_div, n_dec, n_mx, n_mn, eq_m1, eq_m2, ss_same, ss_ne, ss_r, ss_l, sr_f, sr_l, sr_same, sr_ne, sw_f, sw_l, sw_at, sw_ne, pk_us, pk_un, bI_t, bI_f, not_true_eq_false, not_false_eq_true, eq_self, and_true, true_and, and_false, false_and, or_true, true_or, or_false, false_or, decide_true, decide_false, Bool.false_eq_true, Bool.true_eq_false, h5, sr_as, sw_sw]
    exact e1
  · rw [e2, pk_un (by omega), pk_un (by omega), pk_un (by omega), pk_un (by omega), h5, n_add]
  · rw [e4 _ (by omega) (fun g _ _ => by omega), pk_un (by omega), pk_un (by omega), pk_un (by omega), pk_us]
  · rw [e4 _ (by omega) (fun g _ _ => by omega), pk_un (by omega), pk_un (by omega), pk_us]
  · rw [e4 _ (by omega) (fun g _ _ => by omega), pk_un (by omega), pk_us]
  · rw [e4 _ (by omega) (fun g _ _ => by omega), pk_us]
  · intro g hg
    exact e3 g (by omega) hg
  · intro j h1 h2 h3
    rw [e4 j h1 (fun g _ _ => by omega), pk_un (by omega), pk_un (by omega), pk_un (by omega), pk_un (by omega)]
theorem NewC.eqx {N M : Nat → Int32} {c : Nat} {l u o : Int32} (h : NewC N M c l u o) (hc : c < 10) : EqX N M := fun j h1 h2 => h.2.2.2.2.2.2 j h2 (by omega) (by omega)
theorem newC_nc {N M : Nat → Int32} {c : Nat} {l u o : Int32} (h : NewC N M c l u o) (hc : c < 10) : nc M = c + 1 := by
  unfold nc; rw [h.1, n_cl (by omega)]
theorem NN_new {N M : Nat → Int32} (h : NN N) {l u : Int32} {b : Bool} (e : NewC N M (nc N) l u (bI b)) (hc : nc N < 10) (hu : u = m2 ∨ ∃ k, k < nc N ∧ u = nI k) : NN M := by
  obtain ⟨b1, b2, b3, b4, b5, b6, b7, b8⟩ := NNb h
  have p5 := newC_nc e hc
  refine NN_x h (e.eqx hc) ⟨by rw [p5, e.1], by omega⟩ ?_
  intro a ha
  rw [p5] at ha
  rw [(e.eqx hc).acc.1]
  obtain ⟨e0, e1, e2, e3, e4, e5, e6⟩ := e
  by_cases d : a = nc N
  · subst d
    unfold co cd tk
    rw [e2, e3, e4]
    refine ⟨hu, ?_, by decide, fun g hg => ?_⟩
    · cases b <;> decide
    · rw [e5 g hg]
      exact ⟨by decide, fun q => absurd q (by decide)⟩
  · obtain ⟨c1, c2, c3, c4⟩ := h.2.2.2.2 a (by omega)
    unfold co cd tk tl tw at *
    rw [e6 _ (by omega) (by omega) (by omega), e6 _ (by omega) (by omega) (by omega), e6 _ (by omega) (by omega) (by omega)]
    refine ⟨c1, c2, c3, fun g hg => ?_⟩
    rw [e6 _ (by omega) (by omega) (by omega), e6 _ (by omega) (by omega) (by omega), e6 _ (by omega) (by omega) (by omega)]
    exact c4 g hg
def bgS (σ : St) (c : Nat) (l u o : Int32) : St := ss (sr (sr (sr (ss σ 8 (nI (c + 1))) 19 c l) 20 c u) 21 c (nI 0)) 9 o
theorem d_begin {F : Nat} {σ : St} {N : Nat → Int32} (h : NN N) (j : JJ σ N) (hc : nc N < 10) (l u : Int32) : f_X0_begin F σ l u = some (nI (nc N), bgS σ (nc N) l u (nI (bs (fun i => co N i || decide (i = nc N)) (nc N + 1)))) := by
  obtain ⟨e4, e5, e6, e7, e8⟩ := JJf h j
  have o1 : σ.1 9 = nI (bs (co N) (nc N)) := j.2.2.1
  unfold f_X0_begin bgS
  simp (disch := omega) only [↓bnd_i, ↓cal_s, ↓cal_n, ↓cal2_s, ↓cal2_n, cal_s, cal2_s, ↓reduceIte, fa_lit, m1_lit, m2_lit, m1_lt, m2_lt, m1_eq, m2_eq, m1_le, m2_le, le_m1, le_m2, lt_m1, lt_m2, m12, m21, m1_m1, n_lt, n_le, n_eq, lt_t, lt_f, le_t, le_f, eq_t, eq_f, n_cl, inb_ok, n_add, pk_mul, pk_sub, n_rem, n_div, n_dec, n_mx, n_mn, eq_m1, eq_m2, ss_same, ss_ne, ss_r, ss_l, sr_f, sr_l, sr_same, sr_ne, sw_f, sw_l, sw_at, sw_ne, pk_us, pk_un, bI_t, bI_f, not_true_eq_false, not_false_eq_true, eq_self, and_true, true_and, and_false, false_and, or_true, true_or, or_false, false_or, decide_true, decide_false, Bool.false_eq_true, Bool.true_eq_false, e8, o1, st_app]
theorem d_beginN {F : Nat} {σ : St} {N : Nat → Int32} (h : NN N) (j : JJ σ N) (hc : ¬ nc N < 10) (l u : Int32) : f_X0_begin F σ l u = some (m1, σ) := by
  obtain ⟨b1, b2, b3, b4, b5, b6, b7, b8⟩ := NNb h
  obtain ⟨e4, e5, e6, e7, e8⟩ := JJf h j
  unfold f_X0_begin
  simp (disch := omega) only [↓bnd_i, ↓cal_s, ↓cal_n, ↓cal2_s, ↓cal2_n, cal_s, cal2_s, ↓reduceIte, fa_lit, m1_lit, m2_lit, m1_lt, m2_lt, m1_eq, m2_eq, m1_le, m2_le, le_m1, le_m2, lt_m1, lt_m2, m12, m21, m1_m1, n_lt, n_le, n_eq, lt_t, lt_f, le_t, le_f, eq_t, eq_f, n_cl, inb_ok, n_add, pk_mul, pk_sub, n_rem, n_div, n_dec, n_mx, n_mn, eq_m1, eq_m2, ss_same, ss_ne, ss_r, ss_l, sr_f, sr_l, sr_same, sr_ne, sw_f, sw_l, sw_at, sw_ne, pk_us, pk_un, bI_t, bI_f, not_true_eq_false, not_false_eq_true, eq_self, and_true, true_and, and_false, false_and, or_true, true_or, or_false, false_or, decide_true, decide_false, Bool.false_eq_true, Bool.true_eq_false, e8]
theorem JJ_new {σ : St} {N M : Nat → Int32} (h : NN N) (j : JJ σ N) {l u : Int32} (e : NewC N M (nc N) l u (nI 1)) (hc : nc N < 10) : JJ (bgS σ (nc N) l u (nI (bs (fun i => co N i || decide (i = nc N)) (nc N + 1)))) M := by
  have p5 := newC_nc e hc
  have q := e
  obtain ⟨e0, e1, e2, e3, e4, e5, e6⟩ := q
  have eco : ∀ a, a < nc N → co M a = co N a := fun a ha => by unfold co; rw [e6 _ (by omega) (by omega) (by omega)]
  have ecd : ∀ a, a < nc N → cd M a = cd N a := fun a ha => by unfold cd; rw [e6 _ (by omega) (by omega) (by omega)]
  unfold bgS
  refine JJ_x h j (e.eqx hc) ?_ ?_ ?_ ⟨?_, ?_, ?_⟩
  · rw [ss_ne (by omega), sr_f, sr_f, sr_f, ss_same, e0]
  · intro k h1 h2; rw [ss_ne (by omega), sr_f, sr_f, sr_f, ss_ne (by omega)]
  · intro r h1 h2; rw [ss_r, sr_ne (by omega), sr_ne (by omega), sr_ne (by omega), ss_r]
  · rw [ss_same, p5]
    congr 1
    refine bs_cong (fun a ha => ?_)
    by_cases d : a = nc N
    · subst d
      have : co M (nc N) = true := by unfold co; rw [e3]; decide
      simp [this]
    · rw [eco a (by omega)]; simp [d]
  · rw [ss_ne (by omega), sr_f, sr_f, sr_f, ss_ne (by omega), p5, j.2.2.2.1]
    congr 1
    rw [bs, bs_cong ecd]
    have : cd M (nc N) = false := by unfold cd; rw [e4]; decide
    rw [this]; simp
  · intro a ha
    rw [p5] at ha
    rw [ss_r, sr_ne (b := 19) (by omega), sr_ne (b := 19) (by omega), sr_same (a := 19), sr_ne (b := 20) (by omega), sr_same (a := 20), sr_ne (b := 20) (by omega), sr_same (a := 21), sr_ne (b := 21) (by omega), sr_ne (b := 21) (by omega), sr_ne (b := 22) (by omega), sr_ne (b := 22) (by omega), sr_ne (b := 22) (by omega), sr_ne (b := 23) (by omega), sr_ne (b := 23) (by omega), sr_ne (b := 23) (by omega), sr_ne (b := 24) (by omega), sr_ne (b := 24) (by omega), sr_ne (b := 24) (by omega), ss_r]
    by_cases d : a = nc N
    · subst d
      have hk : ∀ g, g < 8 → tk M (nc N) g = false := fun g hg => by unfold tk; rw [e5 g hg]; decide
      rw [pk_us, pk_us, pk_us, e1, e2]
      refine ⟨rfl, rfl, ?_, fun g hg q => ?_⟩
      · rw [bs_cong (g := fun _ => false) hk]; decide
      · rw [hk g hg] at q; cases q
    · obtain ⟨x1, x2, x3, x4⟩ := j.2.2.2.2 a (by omega)
      have ek : ∀ g, g < 8 → tk M a g = tk N a g := fun g hg => by unfold tk; rw [e6 _ (by omega) (by omega) (by omega)]
      rw [pk_un d, pk_un d, pk_un d, e6 _ (by omega) (by omega) (by omega), e6 _ (by omega) (by omega) (by omega)]
      refine ⟨x1, x2, ?_, fun g hg q => ?_⟩
      · rw [bs_cong ek]; exact x3
      · rw [ek g hg] at q
        unfold tl tw
        rw [e6 _ (by omega) (by omega) (by omega), e6 _ (by omega) (by omega) (by omega), e6 _ (by omega) (by omega) (by omega)]
        exact x4 g hg q
theorem Fr.bgS {σ σ' : St} {c : Nat} {l u o : Int32} (h : Fr σ σ') : Fr σ (bgS σ' c l u o) := ((((h.ss (by omega) (by omega)).sr (by omega) (by omega)).sr (by omega) (by omega)).sr (by omega) (by omega)).ss (by omega) (by omega)
theorem op_copy {F : Nat} (hF : 300 < F) {σ τ : St} (C : Core σ τ) (x : Int32) : Op σ τ (f_X7_copy F σ x) (f_X8_copy F τ x) := by
  obtain ⟨b1, b2, b3, b4, b5, b6, b7, b8⟩ := NNb C.1
  have h3 : τ.2.1 19 3 = nI (nl (nw τ) - 1) := C.1.1.2.2.2.1
  have h5 : τ.2.1 19 5 = nI (nc (nw τ)) := C.1.1.2.2.2.2.2.1.1
  unfold f_X7_copy f_X8_copy f_X7_copy_18 f_X8_copy_26
  by_cases c10 : nc (nw τ) < 10
  · have fin : ∀ u : Int32, (u = m2 ∨ ∃ k, k < nc (nw τ) ∧ u = nI k) → ∀ M, NewC (nw τ) M (nc (nw τ)) (nI (nl (nw τ) - 1)) u (nI 1) → Op σ τ (some (nI (nc (nw τ)), bgS σ (nc (nw τ)) (nI (nl (nw τ) - 1)) u (nI (bs (fun i => co (nw τ) i || decide (i = nc (nw τ))) (nc (nw τ) + 1))))) (some (nI (nc (nw τ)), sw τ 19 M)) := by
      intro u hu M e
      refine ⟨_, _, _, rfl, rfl, ?_, (Fr.refl σ).bgS, (FrM.refl τ).sw (by omega) (by omega), ?_⟩
      · unfold Core nw
        rw [sw_at]
        exact ⟨NN_new (b := true) C.1 e c10 hu, JJ_new C.1 C.2 e c10⟩
      · unfold nw
        rw [sw_at]
        exact e.eqx c10 6 (by omega) (by omega)
    by_cases x1 : x = m1
    · obtain ⟨M, e1, e2⟩ := t_newCopy (F := F) (by omega) C.1 c10 (nI (nl (nw τ) - 1)) m2 (nI 1)
      simp (disch := omega) only [↓bnd_i, ↓cal_s, ↓cal_n, ↓cal2_s, ↓cal2_n, cal_s, cal2_s, ↓reduceIte, fa_lit, m1_lit, m2_lit, m1_lt, m2_lt, m1_eq, m2_eq, m1_le, m2_le, le_m1, le_m2, lt_m1, lt_m2, m12, m21, m1_m1, n_lt, n_le, n_eq, lt_t, lt_f, le_t, le_f, eq_t, eq_f, n_cl, inb_ok, n_add, pk_mul, pk_sub, n_rem, n_div, n_dec, n_mx, n_mn, eq_m1, eq_m2, ss_same, ss_ne, ss_r, ss_l, sr_f, sr_l, sr_same, sr_ne, sw_f, sw_l, sw_at, sw_ne, pk_us, pk_un, bI_t, bI_f, not_true_eq_false, not_false_eq_true, eq_self, and_true, true_and, and_false, false_and, or_true, true_or, or_false, false_or, decide_true, decide_false, Bool.false_eq_true, Bool.true_eq_false, ↓cal_w (d_going C.1 C.2), d_going C.1 C.2, ↓cal2_w (d_begin C.1 C.2 c10 _ _), d_begin C.1 C.2 c10 _ _, ↓cal2_w (e1), e1, x1, h3, h5]
      exact fin _ (Or.inl rfl) M e2
    · cases c : isN x (nc (nw τ))
      · simp (disch := omega) only [↓bnd_i, ↓cal_s, ↓cal_n, ↓cal2_s, ↓cal2_n, cal_s, cal2_s, ↓reduceIte, fa_lit, m1_lit, m2_lit, m1_lt, m2_lt, m1_eq, m2_eq, m1_le, m2_le, le_m1, le_m2, lt_m1, lt_m2, m12, m21, m1_m1, n_lt, n_le, n_eq, lt_t, lt_f, le_t, le_f, eq_t, eq_f, n_cl, inb_ok, n_add, pk_mul, pk_sub, n_rem, n_div, n_dec, n_mx, n_mn, eq_m1, eq_m2, ss_same, ss_ne, ss_r, ss_l, sr_f, sr_l, sr_same, sr_ne, sw_f, sw_l, sw_at, sw_ne, pk_us, pk_un, bI_t, bI_f, not_true_eq_false, not_false_eq_true, eq_self, and_true, true_and, and_false, false_and, or_true, true_or, or_false, false_or, decide_true, decide_false, Bool.false_eq_true, Bool.true_eq_false, ↓cal_w (d_hasCopy C.1 C.2 x), d_hasCopy C.1 C.2 x, ↓cal_w (t_isCopy C.1.1 x), t_isCopy C.1.1 x, eq_false x1, c, h5]
        exact Op.same C _
      · obtain ⟨a, ha, e⟩ := isN_e c (by omega)
        obtain ⟨M, e1, e2⟩ := t_newCopy (F := F) (by omega) C.1 c10 (nI (nl (nw τ) - 1)) x (nI 1)
        simp (disch := omega) only [↓bnd_i, ↓cal_s, ↓cal_n, ↓cal2_s, ↓cal2_n, cal_s, cal2_s, ↓reduceIte, fa_lit, m1_lit, m2_lit, m1_lt, m2_lt, m1_eq, m2_eq, m1_le, m2_le, le_m1, le_m2, lt_m1, lt_m2, m12, m21, m1_m1, n_lt, n_le, n_eq, lt_t, lt_f, le_t, le_f, eq_t, eq_f, n_cl, inb_ok, n_add, pk_mul, pk_sub, n_rem, n_div, n_dec, n_mx, n_mn, eq_m1, eq_m2, ss_same, ss_ne, ss_r, ss_l, sr_f, sr_l, sr_same, sr_ne, sw_f, sw_l, sw_at, sw_ne, pk_us, pk_un, bI_t, bI_f, not_true_eq_false, not_false_eq_true, eq_self, and_true, true_and, and_false, false_and, or_true, true_or, or_false, false_or, decide_true, decide_false, Bool.false_eq_true, Bool.true_eq_false, ↓cal_w (d_hasCopy C.1 C.2 x), d_hasCopy C.1 C.2 x, ↓cal_w (t_isCopy C.1.1 x), t_isCopy C.1.1 x, ↓cal_w (d_going C.1 C.2), d_going C.1 C.2, ↓cal2_w (d_begin C.1 C.2 c10 _ _), d_begin C.1 C.2 c10 _ _, ↓cal2_w (e1), e1, eq_false x1, c, h3, h5]
        exact fin _ (Or.inr ⟨a, ha, e⟩) M e2
  · by_cases x1 : x = m1
    · simp (disch := omega) only [↓bnd_i, ↓cal_s, ↓cal_n, ↓cal2_s, ↓cal2_n, cal_s, cal2_s, ↓reduceIte, fa_lit, m1_lit, m2_lit, m1_lt, m2_lt, m1_eq, m2_eq, m1_le, m2_le, le_m1, le_m2, lt_m1, lt_m2, m12, m21, m1_m1, n_lt, n_le, n_eq, lt_t, lt_f, le_t, le_f, eq_t, eq_f, n_cl, inb_ok, n_add, pk_mul, pk_sub, n_rem, n_div, n_dec, n_mx, n_mn, eq_m1, eq_m2, ss_same, ss_ne, ss_r, ss_l, sr_f, sr_l, sr_same, sr_ne, sw_f, sw_l, sw_at, sw_ne, pk_us, pk_un, bI_t, bI_f, not_true_eq_false, not_false_eq_true, eq_self, and_true, true_and, and_false, false_and, or_true, true_or, or_false, false_or, decide_true, decide_false, Bool.false_eq_true, Bool.true_eq_false, ↓cal_w (d_going C.1 C.2), d_going C.1 C.2, ↓cal2_w (d_beginN C.1 C.2 c10 _ _), d_beginN C.1 C.2 c10 _ _, x1, h5]
      exact Op.same C _
    · cases c : isN x (nc (nw τ))
      · simp (disch := omega) only [↓bnd_i, ↓cal_s, ↓cal_n, ↓cal2_s, ↓cal2_n, cal_s, cal2_s, ↓reduceIte, fa_lit, m1_lit, m2_lit, m1_lt, m2_lt, m1_eq, m2_eq, m1_le, m2_le, le_m1, le_m2, lt_m1, lt_m2, m12, m21, m1_m1, n_lt, n_le, n_eq, lt_t, lt_f, le_t, le_f, eq_t, eq_f, n_cl, inb_ok, n_add, pk_mul, pk_sub, n_rem, n_div, n_dec, n_mx, n_mn, eq_m1, eq_m2, ss_same, ss_ne, ss_r, ss_l, sr_f, sr_l, sr_same, sr_ne, sw_f, sw_l, sw_at, sw_ne, pk_us, pk_un, bI_t, bI_f, not_true_eq_false, not_false_eq_true, eq_self, and_true, true_and, and_false, false_and, or_true, true_or, or_false, false_or, decide_true, decide_false, Bool.false_eq_true, Bool.true_eq_false, ↓cal_w (d_hasCopy C.1 C.2 x), d_hasCopy C.1 C.2 x, eq_false x1, c, h5]
        exact Op.same C _
      · simp (disch := omega) only [↓bnd_i, ↓cal_s, ↓cal_n, ↓cal2_s, ↓cal2_n, cal_s, cal2_s, ↓reduceIte, fa_lit, m1_lit, m2_lit, m1_lt, m2_lt, m1_eq, m2_eq, m1_le, m2_le, le_m1, le_m2, lt_m1, lt_m2, m12, m21, m1_m1, n_lt, n_le, n_eq, lt_t, lt_f, le_t, le_f, eq_t, eq_f, n_cl, inb_ok, n_add, pk_mul, pk_sub, n_rem, n_div, n_dec, n_mx, n_mn, eq_m1, eq_m2, ss_same, ss_ne, ss_r, ss_l, sr_f, sr_l, sr_same, sr_ne, sw_f, sw_l, sw_at, sw_ne, pk_us, pk_un, bI_t, bI_f, not_true_eq_false, not_false_eq_true, eq_self, and_true, true_and, and_false, false_and, or_true, true_or, or_false, false_or, decide_true, decide_false, Bool.false_eq_true, Bool.true_eq_false, ↓cal_w (d_hasCopy C.1 C.2 x), d_hasCopy C.1 C.2 x, ↓cal_w (d_going C.1 C.2), d_going C.1 C.2, ↓cal2_w (d_beginN C.1 C.2 c10 _ _), d_beginN C.1 C.2 c10 _ _, eq_false x1, c, h5]
        exact Op.same C _
/-- a chain's pages depend on the copies ahead alone -/
theorem tcF_cong {N M : Nat → Int32} (h : NN N) {g k : Nat} (hk : k ≤ nc N) (e : ∀ a, a < k → tk M a g = tk N a g ∧ up M a = up N a) : ∀ f c, c < k → tcF M f c g = tcF N f c g := by
  intro f
  induction f with
  | zero => intro c _; rfl
  | succ f ih =>
    intro c hc
    obtain ⟨e1, e2⟩ := e c hc
    rw [tcF_s, tcF_s, e1, e2]
    rcases up_in h (show c < nc N by omega) with ⟨-, e3⟩ | ⟨u, hu, -, e3⟩
    · rw [e3]
    · rw [e3]
      simp only [ih u (by omega)]
theorem upd_comm {M : Nat → Int32} {i j : Nat} {v w : Int32} (h : i ≠ j) : upd (upd M i v) j w = upd (upd M j w) i v := by
  funext k
  by_cases c : k = i
  · subst c; rw [pk_un h, pk_us, pk_us]
  · by_cases d : k = j
    · subst d; rw [pk_us, pk_un c, pk_us]
    · rw [pk_un d, pk_un c, pk_un c, pk_un d]
theorem upd_twice {M : Nat → Int32} {i : Nat} {v w : Int32} : upd (upd M i v) i w = upd M i w := by
  funext k
  by_cases c : k = i
  · subst c; rw [pk_us, pk_us]
  · rw [pk_un c, pk_un c, pk_un c]
theorem upd_self {M : Nat → Int32} {i : Nat} {w : Int32} (h : M i = w) : upd M i w = M := by
  funext k
  by_cases c : k = i
  · subst c; rw [pk_us, h]
  · rw [pk_un c]
theorem tkN_comm {M : Nat → Int32} {c g i : Nat} {l p v w : Int32} (h : i < 100) : tkN (upd M i w) c g l p v = upd (tkN M c g l p v) i w := by
  unfold tkN
  rw [upd_comm (i := i) (j := 100 + 4 * (8 * c + g)) (by omega), upd_comm (i := i) (j := 100 + 4 * (8 * c + g) + 1) (by omega), upd_comm (i := i) (j := 100 + 4 * (8 * c + g) + 2) (by omega), upd_comm (i := i) (j := 100 + 4 * (8 * c + g) + 3) (by omega)]
theorem op_combineL {F : Nat} (hF : 300 < F) {a c : Nat} : ∀ (n g : Nat) (σ t : St), c < 10 → a < c → NN (nw t) → nc (nw t) = c + 1 → nw t (60 + 4 * c + 2) = nI 0 → JJ σ (upd (nw t) (60 + 4 * c + 2) (nI 1)) → (∀ b, b < pg (nw t) → ∃ q, tc (nw t) a b = some q) → g ≤ pg (nw t) → pg (nw t) - g < n → Op σ t (f_X7_combine_47 F n σ (nI a) (nI c) (nI g)) (f_X8_combine_45 F n t (nI a) (nI c) (nI g)) := by
  intro n
  induction n with
  | zero => intro g σ t _ _ _ _ _ _ _ _ h; omega
  | succ n ih =>
    intro g σ t hc ha hN hnc h0 hJ hal hg hn
    obtain ⟨b1, b2, b3, b4, b5, b6, b7, b8⟩ := NNb hN
    have hN' : NN (upd (nw t) (60 + 4 * c + 2) (nI 1)) := NN_co hN (show c < nc (nw t) by omega) true
    have p5 : nc (upd (nw t) (60 + 4 * c + 2) (nI 1)) = c + 1 := by unfold nc; rw [pk_un (by omega)]; exact hnc
    have p1 : pg (upd (nw t) (60 + 4 * c + 2) (nI 1)) = pg (nw t) := by unfold pg; rw [pk_un (by omega)]
    have e4 : σ.1 4 = nI (pg (nw t)) := by rw [(JJf hN' hJ).1, p1]
    have t0 : t.2.1 19 0 = nI (pg (nw t)) := hN.1.1.1
    rw [f_X7_combine_47, f_X8_combine_45]
    by_cases e : g = pg (nw t)
    · have o1 : σ.1 9 = nI (bs (co (upd (nw t) (60 + 4 * c + 2) (nI 1))) (c + 1)) := by rw [← p5]; exact hJ.2.2.1
      have o2 : co (upd (nw t) (60 + 4 * c + 2) (nI 1)) c = true := by unfold co; rw [pk_us]; decide
      have dO := d_isOpen (F := F) hN' hJ (show c < nc (upd (nw t) (60 + 4 * c + 2) (nI 1)) by omega)
      rw [o2] at dO
      have hJ2 := JJ_co hN' hJ (show c < nc (upd (nw t) (60 + 4 * c + 2) (nI 1)) by omega) false rfl
      rw [p5, show upd (upd (nw t) (60 + 4 * c + 2) (nI 1)) (60 + 4 * c + 2) (bI false) = nw t by rw [upd_twice]; exact upd_self h0] at hJ2
      simp (disch := omega) only [↓bnd_i, ↓cal_s, ↓cal_n, ↓cal2_s, ↓cal2_n, cal_s, cal2_s, ↓reduceIte, fa_lit, m1_lit, m2_lit, m1_lt, m2_lt, m1_eq, m2_eq, m1_le, m2_le, le_m1, le_m2, lt_m1, lt_m2, m12, m21, m1_m1, n_lt, n_le, n_eq, lt_t, lt_f, le_t, le_f, eq_t, eq_f, n_cl, inb_ok, n_add, pk_mul, pk_sub, n_rem, n_div, n_dec, n_mx, n_mn, eq_m1, eq_m2, ss_same, ss_ne, ss_r, ss_l, sr_f, sr_l, sr_same, sr_ne, sw_f, sw_l, sw_at, sw_ne, pk_us, pk_un, bI_t, bI_f, not_true_eq_false, not_false_eq_true, eq_self, and_true, true_and, and_false, false_and, or_true, true_or, or_false, false_or, decide_true, decide_false, Bool.false_eq_true, Bool.true_eq_false, ↓cal_w (dO), dO, e4, t0, e, f_X0_shut, o1, st_clr, clr_f]
      exact ⟨_, _, _, rfl, rfl, ⟨hN, hJ2⟩, (Fr.refl σ).ss (by omega) (by omega), FrM.refl t, rfl⟩
    · obtain ⟨q, hq⟩ := hal g (by omega)
      obtain ⟨p1', p2, p3, p4, p5', p6, p7, p8⟩ := tc_in hN (show a < nc (nw t) by omega) (show g < 8 by omega) hq
      have r5 : t.2.1 19 (100 + 4 * (8 * q + g) + 1) = nI (tl (nw t) q g) := p5'
      have r7 : t.2.1 19 (100 + 4 * (8 * q + g) + 2) = nI (tw (nw t) q g) := p7
      have hcg : ∀ b, tk (upd (nw t) (60 + 4 * c + 2) (nI 1)) b g = tk (nw t) b g := fun b => by unfold tk; rw [pk_un (by omega)]
      have hq' : tc (upd (nw t) (60 + 4 * c + 2) (nI 1)) a g = some q := by
        rw [← hq]
        exact tcF_cong hN (k := c + 1) (by omega) (fun b hb => ⟨hcg b, by unfold up; rw [pk_un (by omega)]⟩) 10 a (by omega)
      have q1 := d_cellOf (F := F) (by omega) hN' hJ (show a < nc (upd (nw t) (60 + 4 * c + 2) (nI 1)) by omega) (show g < 8 by omega)
      have q2 := t_takenAt (F := F) (by omega) hN (show a < nc (nw t) by omega) (show g < 8 by omega)
      rw [hq'] at q1
      rw [hq] at q2
      obtain ⟨r1, r2, r3⟩ := j_cell hJ (show q < nc (upd (nw t) (60 + 4 * c + 2) (nI 1)) by omega) (show g < 8 by omega) (by rw [hcg]; exact p3)
      have el : tl (upd (nw t) (60 + 4 * c + 2) (nI 1)) q g = tl (nw t) q g := by unfold tl; rw [pk_un (by omega)]
      have ew : tw (upd (nw t) (60 + 4 * c + 2) (nI 1)) q g = tw (nw t) q g := by unfold tw; rw [pk_un (by omega)]
      rw [el] at r1
      rw [ew] at r2
      rw [pk_un (by omega)] at r3
      have dp := d_put (F := F) hN' hJ (show c < nc (upd (nw t) (60 + 4 * c + 2) (nI 1)) by omega) (show g < 8 by omega) (nI (tl (nw t) q g)) (nI (tw (nw t) q g)) (nw t (100 + 4 * (8 * q + g) + 3))
      have jp := JJ_tk hN' hJ (show c < nc (upd (nw t) (60 + 4 * c + 2) (nI 1)) by omega) (show g < 8 by omega) p6 p8 (nw t (100 + 4 * (8 * q + g) + 3))
      rw [tkN_comm (by omega)] at jp
      have np := NN_tk hN (show c < nc (nw t) by omega) (show g < pg (nw t) by omega) p6 p8 (nw t (100 + 4 * (8 * q + g) + 3))
      generalize hM : tkN (nw t) c g (nI (tl (nw t) q g)) (nI (tw (nw t) q g)) (nw t (100 + 4 * (8 * q + g) + 3)) = M at jp np
      have hMo : ∀ j, (j < 100 + 4 * (8 * c + g) ∨ 100 + 4 * (8 * c + g) + 3 < j) → M j = nw t j := fun j hj => by rw [← hM]; exact tkN_out hj
      have mp : pg M = pg (nw t) := by unfold pg; rw [hMo 0 (by omega)]
      have mc : nc M = c + 1 := by unfold nc; rw [hMo 5 (by omega)]; exact hnc
      have tt := t_takes (F := F) (τ := t) hc (show g < 8 by omega) (nI (tl (nw t) q g)) (nI (tw (nw t) q g)) (nw t (100 + 4 * (8 * q + g) + 3))
      rw [hM] at tt
      have ih' := ih (g + 1) _ (sw t 19 M) hc ha (by unfold nw; rw [sw_at]; exact np) (by unfold nw; rw [sw_at]; exact mc) (by unfold nw; rw [sw_at, hMo _ (by omega)]; exact h0) (by unfold nw; rw [sw_at]; exact jp) (by
        unfold nw
        rw [sw_at, mp]
        intro b hb
        obtain ⟨q, hq⟩ := hal b hb
        refine ⟨q, ?_⟩
        rw [← hq]
        exact tcF_cong hN (k := c) (by omega) (fun d hd => ⟨by unfold tk; rw [hMo _ (by omega)], by unfold up; rw [hMo _ (by omega)]⟩) 10 a ha) (by unfold nw; rw [sw_at, mp]; omega) (by unfold nw; rw [sw_at, mp]; omega)
      have fin := Op.then (σ := σ) (τ := t) ((Fr.refl σ).puS) ((FrM.refl t).sw (by omega) (by omega)) (by unfold nw; rw [sw_at, hMo 6 (by omega)]) ih'
      simp (disch := omega) only [↓bnd_i, ↓cal_s, ↓cal_n, ↓cal2_s, ↓cal2_n, cal_s, cal2_s, ↓reduceIte, fa_lit, m1_lit, m2_lit, m1_lt, m2_lt, m1_eq, m2_eq, m1_le, m2_le, le_m1, le_m2, lt_m1, lt_m2, m12, m21, m1_m1, n_lt, n_le, n_eq, lt_t, lt_f, le_t, le_f, eq_t, eq_f, n_cl, inb_ok, n_add, pk_mul, pk_sub, n_rem, n_div, n_dec, n_mx, n_mn, eq_m1, eq_m2, ss_same, ss_ne, ss_r, ss_l, sr_f, sr_l, sr_same, sr_ne, sw_f, sw_l, sw_at, sw_ne, pk_us, pk_un, bI_t, bI_f, not_true_eq_false, not_false_eq_true, eq_self, and_true, true_and, and_false, false_and, or_true, true_or, or_false, false_or, decide_true, decide_false, Bool.false_eq_true, Bool.true_eq_false, ↓cal_w (q1), q1, ↓cal_w (q2), q2, ↓cal_w (dp), dp, ↓cal_w (tt), tt, e4, t0, cl, ta, f_X0_sourceIn, f_X0_placeIn, f_X0_valueIn, r1, r2, r3, r5, r7]
      exact fin
theorem op_combine {F : Nat} (hF : 300 < F) {σ τ : St} (C : Core σ τ) (x : Int32) : Op σ τ (f_X7_combine F σ x) (f_X8_combine F τ x) := by
  obtain ⟨b1, b2, b3, b4, b5, b6, b7, b8⟩ := NNb C.1
  obtain ⟨e4, e5, e6, e7, e8⟩ := JJf C.1 C.2
  have h5 : τ.2.1 19 5 = nI (nc (nw τ)) := C.1.1.2.2.2.2.2.1.1
  unfold f_X7_combine f_X8_combine
  cases c : isN x (nc (nw τ))
  · simp (disch := omega) only [↓bnd_i, ↓cal_s, ↓cal_n, ↓cal2_s, ↓cal2_n, cal_s, cal2_s, ↓reduceIte, fa_lit, m1_lit, m2_lit, m1_lt, m2_lt, m1_eq, m2_eq, m1_le, m2_le, le_m1, le_m2, lt_m1, lt_m2, m12, m21, m1_m1, n_lt, n_le, n_eq, lt_t, lt_f, le_t, le_f, eq_t, eq_f, n_cl, inb_ok, n_add, pk_mul, pk_sub, n_rem, n_div, n_dec, n_mx, n_mn, eq_m1, eq_m2, ss_same, ss_ne, ss_r, ss_l, sr_f, sr_l, sr_same, sr_ne, sw_f, sw_l, sw_at, sw_ne, pk_us, pk_un, bI_t, bI_f, not_true_eq_false, not_false_eq_true, eq_self, and_true, true_and, and_false, false_and, or_true, true_or, or_false, false_or, decide_true, decide_false, Bool.false_eq_true, Bool.true_eq_false, ↓cal_w (d_isFitN C.1 C.2 (x := x) (y := nI (pg (nw τ))) c), d_isFitN C.1 C.2 (x := x) (y := nI (pg (nw τ))) c, ↓cal_w (t_isCopy C.1.1 x), t_isCopy C.1.1 x, c, e4]
    exact Op.same C _
  · obtain ⟨a, ha, rfl⟩ := isN_e c (by omega)
    cases d : ft (nw τ) a
    · simp (disch := omega) only [↓bnd_i, ↓cal_s, ↓cal_n, ↓cal2_s, ↓cal2_n, cal_s, cal2_s, ↓reduceIte, fa_lit, m1_lit, m2_lit, m1_lt, m2_lt, m1_eq, m2_eq, m1_le, m2_le, le_m1, le_m2, lt_m1, lt_m2, m12, m21, m1_m1, n_lt, n_le, n_eq, lt_t, lt_f, le_t, le_f, eq_t, eq_f, n_cl, inb_ok, n_add, pk_mul, pk_sub, n_rem, n_div, n_dec, n_mx, n_mn, eq_m1, eq_m2, ss_same, ss_ne, ss_r, ss_l, sr_f, sr_l, sr_same, sr_ne, sw_f, sw_l, sw_at, sw_ne, pk_us, pk_un, bI_t, bI_f, not_true_eq_false, not_false_eq_true, eq_self, and_true, true_and, and_false, false_and, or_true, true_or, or_false, false_or, decide_true, decide_false, Bool.false_eq_true, Bool.true_eq_false, ↓cal_w (d_isFit (show 20 < F by omega) C.1 C.2 ha), d_isFit (show 20 < F by omega) C.1 C.2 ha, ↓cal_w (t_isCopy C.1.1 _), t_isCopy C.1.1 _, ↓cal_w (t_isFit (show 20 < F by omega) C.1 ha), t_isFit (show 20 < F by omega) C.1 ha, c, d, e4]
      exact Op.same C _
    · by_cases c10 : nc (nw τ) < 10
      · obtain ⟨M, e1, e2⟩ := t_newCopy (F := F) (by omega) C.1 c10 (nw τ (60 + 4 * a)) m2 (nI 0)
        have e3 : NewC (nw τ) (upd M (60 + 4 * nc (nw τ) + 2) (nI 1)) (nc (nw τ)) (nw τ (60 + 4 * a)) m2 (nI 1) := by
          obtain ⟨x1, x2, x3, x4, x5, x6, x7⟩ := e2
          refine ⟨?_, ?_, ?_, pk_us, ?_, ?_, ?_⟩
          · rw [pk_un (by omega)]; exact x1
          · rw [pk_un (by omega)]; exact x2
          · rw [pk_un (by omega)]; exact x3
          · rw [pk_un (by omega)]; exact x5
          · intro g hg; rw [pk_un (by omega)]; exact x6 g hg
          · intro j h1 h2 h3; rw [pk_un (by omega)]; exact x7 j h1 h2 h3
        have nM := NN_new (b := false) C.1 e2 c10 (Or.inl rfl)
        have jM := JJ_new C.1 C.2 e3 c10
        have x7 := e2.2.2.2.2.2.2
        have mp : pg M = pg (nw τ) := (e2.eqx c10).acc.1
        have k := op_combineL (F := F) hF (a := a) (c := nc (nw τ)) F 0 _ (sw τ 19 M) c10 ha (by unfold nw; rw [sw_at]; exact nM) (by unfold nw; rw [sw_at]; exact newC_nc e2 c10) (by unfold nw; rw [sw_at]; exact e2.2.2.2.1) (by unfold nw; rw [sw_at]; exact jM) (by
          unfold nw
          rw [sw_at, mp]
          intro b hb
          obtain ⟨q, hq⟩ := ft_some d hb
          refine ⟨q, ?_⟩
          rw [← hq]
          exact tcF_cong C.1 (k := nc (nw τ)) (by omega) (fun d hd => ⟨by unfold tk; rw [x7 _ (by omega) (by omega) (by omega)], by unfold up; rw [x7 _ (by omega) (by omega) (by omega)]⟩) 10 a ha) (by omega) (by unfold nw; rw [sw_at, mp]; omega)
        have fin := Op.then (σ := σ) (τ := τ) ((Fr.refl σ).bgS) ((FrM.refl τ).sw (by omega) (by omega)) (by unfold nw; rw [sw_at]; exact e2.eqx c10 6 (by omega) (by omega)) k
        simp (disch := omega) only [↓bnd_i, ↓cal_s, ↓cal_n, ↓cal2_s, ↓cal2_n, cal_s, cal2_s, ↓reduceIte, fa_lit, m1_lit, m2_lit, m1_lt, m2_lt, m1_eq, m2_eq, m1_le, m2_le, le_m1, le_m2, lt_m1, lt_m2, m12, m21, m1_m1, n_lt, n_le, n_eq, lt_t, lt_f, le_t, le_f, eq_t, eq_f, n_cl, inb_ok, n_add, pk_mul, pk_sub, n_rem, n_div, n_dec, n_mx, n_mn, eq_m1, eq_m2, ss_same, ss_ne, ss_r, ss_l, sr_f, sr_l, sr_same, sr_ne, sw_f, sw_l, sw_at, sw_ne, pk_us, pk_un, bI_t, bI_f, not_true_eq_false, not_false_eq_true, eq_self, and_true, true_and, and_false, false_and, or_true, true_or, or_false, false_or, decide_true, decide_false, Bool.false_eq_true, Bool.true_eq_false, ↓cal_w (d_isFit (show 20 < F by omega) C.1 C.2 ha), d_isFit (show 20 < F by omega) C.1 C.2 ha, ↓cal_w (t_isCopy C.1.1 _), t_isCopy C.1.1 _, ↓cal_w (t_isFit (show 20 < F by omega) C.1 ha), t_isFit (show 20 < F by omega) C.1 ha, ↓cal_w (d_lineOf C.1 C.2 ha), d_lineOf C.1 C.2 ha, ↓cal_w (t_ofCopy (τ := τ) (show a < 10 by omega) (show 0 < 4 by omega)), t_ofCopy (τ := τ) (show a < 10 by omega) (show 0 < 4 by omega), ↓cal2_w (d_begin C.1 C.2 c10 _ _), d_begin C.1 C.2 c10 _ _, ↓cal2_w (e1), e1, c, d, e4, h5, Nat.add_zero]
        exact fin
      · simp (disch := omega) only [↓bnd_i, ↓cal_s, ↓cal_n, ↓cal2_s, ↓cal2_n, cal_s, cal2_s, ↓reduceIte, fa_lit, m1_lit, m2_lit, m1_lt, m2_lt, m1_eq, m2_eq, m1_le, m2_le, le_m1, le_m2, lt_m1, lt_m2, m12, m21, m1_m1, n_lt, n_le, n_eq, lt_t, lt_f, le_t, le_f, eq_t, eq_f, n_cl, inb_ok, n_add, pk_mul, pk_sub, n_rem, n_div, n_dec, n_mx, n_mn, eq_m1, eq_m2, ss_same, ss_ne, ss_r, ss_l, sr_f, sr_l, sr_same, sr_ne, sw_f, sw_l, sw_at, sw_ne, pk_us, pk_un, bI_t, bI_f, not_true_eq_false, not_false_eq_true, eq_self, and_true, true_and, and_false, false_and, or_true, true_or, or_false, false_or, decide_true, decide_false, Bool.false_eq_true, Bool.true_eq_false, ↓cal_w (d_isFit (show 20 < F by omega) C.1 C.2 ha), d_isFit (show 20 < F by omega) C.1 C.2 ha, ↓cal_w (t_isCopy C.1.1 _), t_isCopy C.1.1 _, ↓cal_w (t_isFit (show 20 < F by omega) C.1 ha), t_isFit (show 20 < F by omega) C.1 ha, ↓cal_w (d_lineOf C.1 C.2 ha), d_lineOf C.1 C.2 ha, ↓cal2_w (d_beginN C.1 C.2 c10 _ _), d_beginN C.1 C.2 c10 _ _, c, d, e4, h5]
        exact Op.same C _
