/-! PURE: doings on copies -/
/-- all but the copies stands as it was -/
def EqX (N M : Nat → Int32) : Prop := ∀ j, (j < 60 ∨ 420 ≤ j) → j ≠ 5 → M j = N j
theorem EqX.acc {N M : Nat → Int32} (e : EqX N M) : pg M = pg N ∧ wd M = wd N ∧ nl M = nl N ∧ md M = md N ∧ (∀ l, l < 8 → tp M l = tp N l) ∧ (∀ l, l < 8 → pr M l = pr N l) ∧ (∀ l, l < 8 → fk M l = fk N l) ∧ (∀ l k, kp M l k = kp N l k) ∧ (∀ l, l ≤ 8 → sm M l = sm N l) := by
  have p6 : ∀ l, l < 8 → tp M l = tp N l := fun l hl => by unfold tp; rw [e _ (by omega) (by omega)]
  have p8 : ∀ l, l < 8 → fk M l = fk N l := fun l hl => by unfold fk; rw [e _ (by omega) (by omega)]
  refine ⟨?_, ?_, ?_, ?_, p6, ?_, p8, ?_, ?_⟩
  · unfold pg; rw [e _ (by omega) (by omega)]
  · unfold wd; rw [e _ (by omega) (by omega)]
  · unfold nl; rw [e _ (by omega) (by omega)]
  · unfold md; rw [e _ (by omega) (by omega)]
  · intro l hl; unfold pr; rw [e _ (by omega) (by omega)]
  · intro l k; unfold kp; rw [e _ (by omega) (by omega)]
  · intro l
    induction l with
    | zero => intro _; rfl
    | succ l ih => intro hl; simp only [sm]; rw [ih (by omega), p6 l (by omega), p8 l (by omega)]
theorem NN_x {N M : Nat → Int32} (h : NN N) (e : EqX N M) (h5 : M 5 = nI (nc M) ∧ nc M ≤ 10) (hc : N5 M) : NN M := by
  obtain ⟨b1, b2, b3, b4, b5, b6, b7, b8⟩ := NNb h
  obtain ⟨p1, p2, p3, p4, p6, p7, p8, p9, -⟩ := e.acc
  obtain ⟨h1, h2, h3, h4, -⟩ := h
  refine ⟨?_, ?_, ?_, ?_, hc⟩
  · obtain ⟨a1, a2, a3, a4, a5, -, t, ht, a7⟩ := h1
    unfold N1
    rw [p1, p2, p3, p4, e 0 (by omega) (by omega), e 1 (by omega) (by omega), e 2 (by omega) (by omega), e 3 (by omega) (by omega), e 4 (by omega) (by omega), e 6 (by omega) (by omega)]
    exact ⟨a1, a2, a3, a4, a5, h5, t, ht, a7⟩
  · unfold N2
    rw [p3, e 21 (by omega) (by omega), e 22 (by omega) (by omega)]
    refine ⟨fun l hl => ?_, fun l h0 hl => ?_, h2.2.2⟩
    · rw [p6 l (by omega), e _ (by omega) (by omega)]; exact h2.1 l hl
    · have q := h2.2.1 l h0 hl
      rw [p6 l (by omega), p7 l (by omega), p8 l (by omega), p6 _ (by omega), e _ (by omega) (by omega), e _ (by omega) (by omega)]; exact q
  · unfold N3
    rw [p3]
    refine ⟨fun l k hl hk => ?_, fun l k hn hl hk => ?_⟩
    · rw [p9, e _ (by omega) (by omega)]; exact h3.1 l k hl hk
    · rw [p9]; exact h3.2 l k hn hl hk
  · intro l p hl hp1 hp2
    rw [p3] at hl
    rw [p8 l (by omega)] at hp1
    rw [p6 l (by omega)] at hp2
    rw [p1, e _ (by unfold ra; omega) (by unfold ra; omega), e _ (by unfold ra; omega) (by unfold ra; omega)]
    exact h4 l p hl hp1 hp2
theorem JJ_x {σ σ' : St} {N M : Nat → Int32} (h : NN N) (j : JJ σ N) (e : EqX N M) (f8 : σ'.1 8 = M 5) (ff : ∀ k, 4 ≤ k → k ≤ 7 → σ'.1 k = σ.1 k) (rr : ∀ r, 11 ≤ r → r ≤ 18 → σ'.2.1 r = σ.2.1 r) (x : JX σ' M) : JJ σ' M := by
  obtain ⟨b1, b2, b3, b4, b5, b6, b7, b8⟩ := NNb h
  obtain ⟨p1, p2, p3, p4, p6, p7, p8, p9, p10⟩ := e.acc
  obtain ⟨⟨⟨a0, a1, a2, a3, a4⟩, al, ap, am⟩, ⟨ar, ac, as, aq⟩, -⟩ := j
  refine ⟨⟨⟨?_, ?_, ?_, ?_, f8⟩, ?_, ?_, ?_⟩, ⟨?_, ?_, ?_, ?_⟩, x⟩
  · rw [ff 4 (by omega) (by omega), e 0 (by omega) (by omega)]; exact a0
  · rw [ff 5 (by omega) (by omega), e 1 (by omega) (by omega)]; exact a1
  · rw [ff 6 (by omega) (by omega), e 2 (by omega) (by omega)]; exact a2
  · rw [ff 7 (by omega) (by omega), e 4 (by omega) (by omega)]; exact a3
  · intro l hl
    rw [p3] at hl
    rw [rr 13 (by omega) (by omega), rr 12 (by omega) (by omega), rr 14 (by omega) (by omega), rr 11 (by omega) (by omega), p6 l (by omega), p7 l (by omega), p8 l (by omega), p10 l (by omega)]
    exact al l hl
  · rw [rr 11 (by omega) (by omega)]; exact ap
  · rw [p4, p3, p10 _ (by omega)]; exact am
  · intro l p hl hp1 hp2
    rw [p3] at hl
    rw [p8 l (by omega)] at hp1 ⊢
    rw [p6 l (by omega)] at hp2
    rw [rr 15 (by omega) (by omega), rr 16 (by omega) (by omega), rr 17 (by omega) (by omega), p10 l (by omega), e _ (by unfold ra; omega) (by unfold ra; omega), e _ (by unfold ra; omega) (by unfold ra; omega), e _ (by unfold ra; omega) (by unfold ra; omega)]
    exact ar l p hl hp1 hp2
  · intro l k hl hk
    rw [p3] at hl
    rw [rr 18 (by omega) (by omega), p9]; exact ac l k hl hk
  · rw [rr 15 (by omega) (by omega)]; exact as
  · rw [rr 18 (by omega) (by omega)]; exact aq
/-- a cell of a copy's head is set: open or dropped -/
theorem eqx_u {N : Nat → Int32} {i : Nat} {v : Int32} (h1 : 60 ≤ i) (h2 : i < 420) : EqX N (upd N i v) := fun j hj h5 => pk_un (by omega)
theorem hd_co {N : Nat → Int32} {c k a : Nat} {b : Bool} (hc : c < 10) (ha : a < 10) : co (upd N (60 + 4 * c + 2) (bI b)) a = if a = c then b else co N a := by
  unfold co
  by_cases e : a = c
  · subst e; rw [pk_us, if_pos rfl]; cases b <;> decide
  · rw [pk_un (by omega), if_neg e]
theorem hd_cd {N : Nat → Int32} {c k a : Nat} {b : Bool} (hc : c < 10) (ha : a < 10) : cd (upd N (60 + 4 * c + 3) (bI b)) a = if a = c then b else cd N a := by
  unfold cd
  by_cases e : a = c
  · subst e; rw [pk_us, if_pos rfl]; cases b <;> decide
  · rw [pk_un (by omega), if_neg e]
theorem NN_co {N : Nat → Int32} (h : NN N) {c : Nat} (hc : c < nc N) (b : Bool) : NN (upd N (60 + 4 * c + 2) (bI b)) := by
  obtain ⟨b1, b2, b3, b4, b5, b6, b7, b8⟩ := NNb h
  have e : EqX N (upd N (60 + 4 * c + 2) (bI b)) := eqx_u (by omega) (by omega)
  have p5 : nc (upd N (60 + 4 * c + 2) (bI b)) = nc N := by unfold nc; rw [pk_un (by omega)]
  refine NN_x h e ⟨by rw [p5, pk_un (by omega)]; exact h.1.2.2.2.2.2.1.1, by omega⟩ ?_
  intro a ha
  rw [p5] at ha
  obtain ⟨c1, c2, c3, c4⟩ := h.2.2.2.2 a ha
  rw [hd_co (k := 0) (by omega) (by omega), e.acc.1]
  unfold cd tk tl tw at *
  rw [pk_un (show 60 + 4 * a + 1 ≠ _ by omega), pk_un (show 60 + 4 * a + 3 ≠ _ by omega)]
  refine ⟨c1, ?_, c3, fun g hg => ?_⟩
  · by_cases d : a = c
    · subst d; rw [pk_us, if_pos rfl]
    · rw [pk_un (by omega), if_neg d]; exact c2
  · rw [pk_un (by omega), pk_un (by omega), pk_un (by omega)]; exact c4 g hg
theorem JJ_co {σ : St} {N : Nat → Int32} (h : NN N) (j : JJ σ N) {c : Nat} (hc : c < nc N) (b : Bool) {v : Int32} (hv : v = nI (bs (fun a => if a = c then b else co N a) (nc N))) : JJ (ss σ 9 v) (upd N (60 + 4 * c + 2) (bI b)) := by
  obtain ⟨b1, b2, b3, b4, b5, b6, b7, b8⟩ := NNb h
  have p5 : nc (upd N (60 + 4 * c + 2) (bI b)) = nc N := by unfold nc; rw [pk_un (by omega)]
  refine JJ_x h j (eqx_u (by omega) (by omega)) ?_ ?_ ?_ ⟨?_, ?_, ?_⟩
  · rw [ss_ne (by omega), pk_un (by omega)]; exact j.1.1.2.2.2.2
  · intro k h1 h2; rw [ss_ne (by omega)]
  · intro r _ _; rfl
  · rw [ss_same, hv, p5]
    congr 1
    exact bs_cong (fun a ha => (hd_co (k := 0) (by omega) (by omega)).symm)
  · rw [ss_ne (by omega), p5, j.2.2.2.1]
    congr 1
    exact bs_cong (fun a ha => by unfold cd; rw [pk_un (by omega)])
  · intro a ha
    rw [p5] at ha
    obtain ⟨x1, x2, x3, x4⟩ := j.2.2.2.2 a ha
    have ek : ∀ g, g < 8 → tk (upd N (60 + 4 * c + 2) (bI b)) a g = tk N a g := fun g hg => by unfold tk; rw [pk_un (by omega)]
    rw [pk_un (by omega), pk_un (by omega)]
    refine ⟨x1, x2, ?_, fun g hg hk => ?_⟩
    · rw [bs_cong (fun g hg => ek g hg)]; exact x3
    · rw [ek g hg] at hk
      unfold tl tw
      rw [pk_un (by omega), pk_un (by omega), pk_un (by omega)]
      exact x4 g hg hk
theorem NN_cd {N : Nat → Int32} (h : NN N) {c : Nat} (hc : c < nc N) (b : Bool) : NN (upd N (60 + 4 * c + 3) (bI b)) := by
  obtain ⟨b1, b2, b3, b4, b5, b6, b7, b8⟩ := NNb h
  have e : EqX N (upd N (60 + 4 * c + 3) (bI b)) := eqx_u (by omega) (by omega)
  have p5 : nc (upd N (60 + 4 * c + 3) (bI b)) = nc N := by unfold nc; rw [pk_un (by omega)]
  refine NN_x h e ⟨by rw [p5, pk_un (by omega)]; exact h.1.2.2.2.2.2.1.1, by omega⟩ ?_
  intro a ha
  rw [p5] at ha
  obtain ⟨c1, c2, c3, c4⟩ := h.2.2.2.2 a ha
  rw [hd_cd (k := 0) (by omega) (by omega), e.acc.1]
  unfold co tk tl tw at *
  rw [pk_un (show 60 + 4 * a + 1 ≠ _ by omega), pk_un (show 60 + 4 * a + 2 ≠ _ by omega)]
  refine ⟨c1, c2, ?_, fun g hg => ?_⟩
  · by_cases d : a = c
    · subst d; rw [pk_us, if_pos rfl]
    · rw [pk_un (by omega), if_neg d]; exact c3
  · rw [pk_un (by omega), pk_un (by omega), pk_un (by omega)]; exact c4 g hg
theorem JJ_cd {σ : St} {N : Nat → Int32} (h : NN N) (j : JJ σ N) {c : Nat} (hc : c < nc N) (b : Bool) {v : Int32} (hv : v = nI (bs (fun a => if a = c then b else cd N a) (nc N))) : JJ (ss σ 10 v) (upd N (60 + 4 * c + 3) (bI b)) := by
  obtain ⟨b1, b2, b3, b4, b5, b6, b7, b8⟩ := NNb h
  have p5 : nc (upd N (60 + 4 * c + 3) (bI b)) = nc N := by unfold nc; rw [pk_un (by omega)]
  refine JJ_x h j (eqx_u (by omega) (by omega)) ?_ ?_ ?_ ⟨?_, ?_, ?_⟩
  · rw [ss_ne (by omega), pk_un (by omega)]; exact j.1.1.2.2.2.2
  · intro k h1 h2; rw [ss_ne (by omega)]
  · intro r _ _; rfl
  · rw [ss_ne (by omega), p5, j.2.2.1]
    congr 1
    exact bs_cong (fun a ha => by unfold co; rw [pk_un (by omega)])
  · rw [ss_same, hv, p5]
    congr 1
    exact bs_cong (fun a ha => (hd_cd (k := 0) (by omega) (by omega)).symm)
  · intro a ha
    rw [p5] at ha
    obtain ⟨x1, x2, x3, x4⟩ := j.2.2.2.2 a ha
    have ek : ∀ g, g < 8 → tk (upd N (60 + 4 * c + 3) (bI b)) a g = tk N a g := fun g hg => by unfold tk; rw [pk_un (by omega)]
    rw [pk_un (by omega), pk_un (by omega)]
    refine ⟨x1, x2, ?_, fun g hg hk => ?_⟩
    · rw [bs_cong (fun g hg => ek g hg)]; exact x3
    · rw [ek g hg] at hk
      unfold tl tw
      rw [pk_un (by omega), pk_un (by omega), pk_un (by omega)]
      exact x4 g hg hk
theorem clr_f {f : Nat → Bool} {c n : Nat} : bs (fun i => f i && !decide (i = c)) n = bs (fun a => if a = c then false else f a) n := bs_cong (fun a _ => by
  by_cases d : a = c
  · simp [d]
  · simp [d])
theorem set_f {f : Nat → Bool} {c n : Nat} : bs (fun i => f i || decide (i = c)) n = bs (fun a => if a = c then true else f a) n := bs_cong (fun a _ => by
  by_cases d : a = c
  · simp [d]
  · simp [d])
theorem op_close {F : Nat} {σ τ : St} (C : Core σ τ) (x : Int32) : Op σ τ (f_X7_close F σ x) (f_X8_close F τ x) := by
  obtain ⟨b1, b2, b3, b4, b5, b6, b7, b8⟩ := NNb C.1
  unfold f_X7_close f_X8_close f_X0_shut
  cases c : isN x (nc (nw τ))
  · simp (disch := omega) only [↓bnd_i, ↓cal_s, ↓cal_n, ↓cal2_s, ↓cal2_n, cal_s, cal2_s, ↓reduceIte, fa_lit, m1_lit, m2_lit, m1_lt, m2_lt, m1_eq, m2_eq, m1_le, m2_le, le_m1, le_m2, lt_m1, lt_m2, m12, m21, m1_m1, n_lt, n_le, n_eq, lt_t, lt_f, le_t, le_f, eq_t, eq_f, n_cl, inb_ok, n_add, pk_mul, pk_sub, n_rem, n_div, n_dec, n_mx, n_mn, eq_m1, eq_m2, ss_same, ss_ne, ss_r, ss_l, sr_f, sr_l, sr_same, sr_ne, sw_f, sw_l, sw_at, sw_ne, pk_us, pk_un, bI_t, bI_f, not_true_eq_false, not_false_eq_true, eq_self, and_true, true_and, and_false, false_and, or_true, true_or, or_false, false_or, decide_true, decide_false, Bool.false_eq_true, Bool.true_eq_false, ↓cal_w (d_isOpenN C.1 C.2 c), d_isOpenN C.1 C.2 c, ↓cal_w (t_isCopy C.1.1 x), t_isCopy C.1.1 x, c]
    exact Op.same C _
  · obtain ⟨a, ha, rfl⟩ := isN_e c (by omega)
    have u1 : τ.2.1 19 (60 + 4 * a + 2) = bI (co (nw τ) a) := (C.1.2.2.2.2 a ha).2.1
    have o1 : σ.1 9 = nI (bs (co (nw τ)) (nc (nw τ))) := C.2.2.2.1
    cases d : co (nw τ) a
    · rw [d] at u1
      simp (disch := omega) only [↓bnd_i, ↓cal_s, ↓cal_n, ↓cal2_s, ↓cal2_n, cal_s, cal2_s, ↓reduceIte, fa_lit, m1_lit, m2_lit, m1_lt, m2_lt, m1_eq, m2_eq, m1_le, m2_le, le_m1, le_m2, lt_m1, lt_m2, m12, m21, m1_m1, n_lt, n_le, n_eq, lt_t, lt_f, le_t, le_f, eq_t, eq_f, n_cl, inb_ok, n_add, pk_mul, pk_sub, n_rem, n_div, n_dec, n_mx, n_mn, eq_m1, eq_m2, ss_same, ss_ne, ss_r, ss_l, sr_f, sr_l, sr_same, sr_ne, sw_f, sw_l, sw_at, sw_ne, pk_us, pk_un, bI_t, bI_f, not_true_eq_false, not_false_eq_true, eq_self, and_true, true_and, and_false, false_and, or_true, true_or, or_false, false_or, decide_true, decide_false, Bool.false_eq_true, Bool.true_eq_false, ↓cal_w (d_isOpen C.1 C.2 ha), d_isOpen C.1 C.2 ha, ↓cal_w (t_isCopy C.1.1 _), t_isCopy C.1.1 _, ↓cal_w (t_ofCopy (τ := τ) (show a < 10 by omega) (show 2 < 4 by omega)), t_ofCopy (τ := τ) (show a < 10 by omega) (show 2 < 4 by omega), c, d, u1]
      exact Op.same C _
    · rw [d] at u1
      simp (disch := omega) only [↓bnd_i, ↓cal_s, ↓cal_n, ↓cal2_s, ↓cal2_n, cal_s, cal2_s, ↓reduceIte, fa_lit, m1_lit, m2_lit, m1_lt, m2_lt, m1_eq, m2_eq, m1_le, m2_le, le_m1, le_m2, lt_m1, lt_m2, m12, m21, m1_m1, n_lt, n_le, n_eq, lt_t, lt_f, le_t, le_f, eq_t, eq_f, n_cl, inb_ok, n_add, pk_mul, pk_sub, n_rem, n_div, n_dec, n_mx, n_mn, eq_m1, eq_m2, ss_same, ss_ne, ss_r, ss_l, sr_f, sr_l, sr_same, sr_ne, sw_f, sw_l, sw_at, sw_ne, pk_us, pk_un, bI_t, bI_f, not_true_eq_false, not_false_eq_true, eq_self, and_true, true_and, and_false, false_and, or_true, true_or, or_false, false_or, decide_true, decide_false, Bool.false_eq_true, Bool.true_eq_false, ↓cal_w (d_isOpen C.1 C.2 ha), d_isOpen C.1 C.2 ha, ↓cal_w (t_isCopy C.1.1 _), t_isCopy C.1.1 _, ↓cal_w (t_ofCopy (τ := τ) (show a < 10 by omega) (show 2 < 4 by omega)), t_ofCopy (τ := τ) (show a < 10 by omega) (show 2 < 4 by omega), c, d, u1, o1, st_clr, clr_f]
      refine ⟨_, _, _, rfl, rfl, ?_, (Fr.refl σ).ss (by omega) (by omega), (FrM.refl τ).sr (by omega) (by omega), ?_⟩
      · unfold Core nw
        rw [sr_same]
        exact ⟨NN_co C.1 ha false, JJ_co C.1 C.2 ha false rfl⟩
      · unfold nw
        rw [sr_same, pk_un (by omega)]
/-- whether a copy carries another that isn't dropped -/
def crF (N : Nat → Int32) (c : Nat) : Nat → Nat → Bool
  | 0, _ => false
  | m + 1, o => if N (60 + 4 * o + 1) = nI c ∧ cd N o = false then true else crF N c m (o + 1)
theorem crF_s {N : Nat → Int32} {c m o : Nat} : crF N c (m + 1) o = if N (60 + 4 * o + 1) = nI c ∧ cd N o = false then true else crF N c m (o + 1) := rfl
theorem d_carriesOne {F : Nat} (hF : 20 < F) {σ : St} {N : Nat → Int32} (h : NN N) (j : JJ σ N) (c : Nat) : f_X0_carriesOne F σ (nI c) = some (bI (crF N c (nc N) 0)) := by
  obtain ⟨b1, b2, b3, b4, b5, b6, b7, b8⟩ := NNb h
  obtain ⟨e4, e5, e6, e7, e8⟩ := JJf h j
  have key : ∀ m o n, o + m = nc N → m < n → f_X0_carriesOne_2 F n σ (nI c) (nI o) = some (bI (crF N c m o)) := by
    intro m
    induction m with
    | zero =>
      intro o n ho hn
      obtain ⟨n, rfl⟩ : ∃ k, n = k + 1 := ⟨n - 1, by omega⟩
      rw [f_X0_carriesOne_2, show crF N c 0 o = false from rfl]
      simp (disch := omega) only [↓bnd_i, ↓cal_s, ↓cal_n, ↓cal2_s, ↓cal2_n, cal_s, cal2_s, ↓reduceIte, fa_lit, m1_lit, m2_lit, m1_lt, m2_lt, m1_eq, m2_eq, m1_le, m2_le, le_m1, le_m2, lt_m1, lt_m2, m12, m21, m1_m1, n_lt, n_le, n_eq, lt_t, lt_f, le_t, le_f, eq_t, eq_f, n_cl, inb_ok, n_add, pk_mul, pk_sub, n_rem, n_div, n_dec, n_mx, n_mn, eq_m1, eq_m2, ss_same, ss_ne, ss_r, ss_l, sr_f, sr_l, sr_same, sr_ne, sw_f, sw_l, sw_at, sw_ne, pk_us, pk_un, bI_t, bI_f, not_true_eq_false, not_false_eq_true, eq_self, and_true, true_and, and_false, false_and, or_true, true_or, or_false, false_or, decide_true, decide_false, Bool.false_eq_true, Bool.true_eq_false, e8]
    | succ m ih =>
      intro o n ho hn
      obtain ⟨n, rfl⟩ : ∃ k, n = k + 1 := ⟨n - 1, by omega⟩
      have ih' := ih (o + 1) n (by omega) (by omega)
      obtain ⟨j1, j2, j3⟩ := j_cop j (show o < nc N by omega)
      rw [f_X0_carriesOne_2, crF_s]
      by_cases d : N (60 + 4 * o + 1) = nI c
      · cases d2 : cd N o
        · simp (disch := omega) only [↓bnd_i, ↓cal_s, ↓cal_n, ↓cal2_s, ↓cal2_n, cal_s, cal2_s, ↓reduceIte, fa_lit, m1_lit, m2_lit, m1_lt, m2_lt, m1_eq, m2_eq, m1_le, m2_le, le_m1, le_m2, lt_m1, lt_m2, m12, m21, m1_m1, n_lt, n_le, n_eq, lt_t, lt_f, le_t, le_f, eq_t, eq_f, n_cl, inb_ok, n_add, pk_mul, pk_sub, n_rem, n_div, n_dec, n_mx, n_mn, eq_m1, eq_m2, ss_same, ss_ne, ss_r, ss_l, sr_f, sr_l, sr_same, sr_ne, sw_f, sw_l, sw_at, sw_ne, pk_us, pk_un, bI_t, bI_f, not_true_eq_false, not_false_eq_true, eq_self, and_true, true_and, and_false, false_and, or_true, true_or, or_false, false_or, decide_true, decide_false, Bool.false_eq_true, Bool.true_eq_false, ↓cal_w (d_isDropped h j (show o < nc N by omega)), d_isDropped h j (show o < nc N by omega), e8, j2, d, d2]
        · simp (disch := omega) only [↓bnd_i, ↓cal_s, ↓cal_n, ↓cal2_s, ↓cal2_n, cal_s, cal2_s, ↓reduceIte, fa_lit, m1_lit, m2_lit, m1_lt, m2_lt, m1_eq, m2_eq, m1_le, m2_le, le_m1, le_m2, lt_m1, lt_m2, m12, m21, m1_m1, n_lt, n_le, n_eq, lt_t, lt_f, le_t, le_f, eq_t, eq_f, n_cl, inb_ok, n_add, pk_mul, pk_sub, n_rem, n_div, n_dec, n_mx, n_mn, eq_m1, eq_m2, ss_same, ss_ne, ss_r, ss_l, sr_f, sr_l, sr_same, sr_ne, sw_f, sw_l, sw_at, sw_ne, pk_us, pk_un, bI_t, bI_f, not_true_eq_false, not_false_eq_true, eq_self, and_true, true_and, and_false, false_and, or_true, true_or, or_false, false_or, decide_true, decide_false, Bool.false_eq_true, Bool.true_eq_false, ↓cal_w (d_isDropped h j (show o < nc N by omega)), d_isDropped h j (show o < nc N by omega), e8, j2, d, d2, f_X0_carriesOne_30]
          exact ih'
      · simp (disch := omega) only [↓bnd_i, ↓cal_s, ↓cal_n, ↓cal2_s, ↓cal2_n, cal_s, cal2_s, ↓reduceIte, fa_lit, m1_lit, m2_lit, m1_lt, m2_lt, m1_eq, m2_eq, m1_le, m2_le, le_m1, le_m2, lt_m1, lt_m2, m12, m21, m1_m1, n_lt, n_le, n_eq, lt_t, lt_f, le_t, le_f, eq_t, eq_f, n_cl, inb_ok, n_add, pk_mul, pk_sub, n_rem, n_div, n_dec, n_mx, n_mn, eq_m1, eq_m2, ss_same, ss_ne, ss_r, ss_l, sr_f, sr_l, sr_same, sr_ne, sw_f, sw_l, sw_at, sw_ne, pk_us, pk_un, bI_t, bI_f, not_true_eq_false, not_false_eq_true, eq_self, and_true, true_and, and_false, false_and, or_true, true_or, or_false, false_or, decide_true, decide_false, Bool.false_eq_true, Bool.true_eq_false, e8, j2, eq_false d, f_X0_carriesOne_30]
        exact ih'
  exact key (nc N) 0 F (by omega) (by omega)
theorem t_dropL {F : Nat} {τ : St} (h : NN (nw τ)) {c : Nat} (hc : c < 10) : ∀ m o n, o + m = nc (nw τ) → m < n → f_X8_drop_32 F n τ (nI c) (nI o) = if crF (nw τ) c m o then some (nI 0, τ) else some (nI 1, sr τ 19 (60 + 4 * c + 3) (nI 1)) := by
  obtain ⟨b1, b2, b3, b4, b5, b6, b7, b8⟩ := NNb h
  have h5 : τ.2.1 19 5 = nI (nc (nw τ)) := h.1.2.2.2.2.2.1.1
  intro m
  induction m with
  | zero =>
    intro o n ho hn
    obtain ⟨n, rfl⟩ : ∃ k, n = k + 1 := ⟨n - 1, by omega⟩
    rw [f_X8_drop_32, show crF (nw τ) c 0 o = false from rfl]
    simp (disch := omega) only [↓bnd_i, ↓cal_s, ↓cal_n, ↓cal2_s, ↓cal2_n, cal_s, cal2_s, ↓reduceIte, fa_lit, m1_lit, m2_lit, m1_lt, m2_lt, m1_eq, m2_eq, m1_le, m2_le, le_m1, le_m2, lt_m1, lt_m2, m12, m21, m1_m1, n_lt, n_le, n_eq, lt_t, lt_f, le_t, le_f, eq_t, eq_f, n_cl, inb_ok, n_add, pk_mul, pk_sub, n_rem, n_div, n_dec, n_mx, n_mn, eq_m1, eq_m2, ss_same, ss_ne, ss_r, ss_l, sr_f, sr_l, sr_same, sr_ne, sw_f, sw_l, sw_at, sw_ne, pk_us, pk_un, bI_t, bI_f, not_true_eq_false, not_false_eq_true, eq_self, and_true, true_and, and_false, false_and, or_true, true_or, or_false, false_or, decide_true, decide_false, Bool.false_eq_true, Bool.true_eq_false, h5]
  | succ m ih =>
    intro o n ho hn
    obtain ⟨n, rfl⟩ : ∃ k, n = k + 1 := ⟨n - 1, by omega⟩
    have ih' := ih (o + 1) n (by omega) (by omega)
    have u3 := (h.2.2.2.2 o (by omega)).2.2.1
    rw [f_X8_drop_32, crF_s]
    by_cases d : nw τ (60 + 4 * o + 1) = nI c
    · cases d2 : cd (nw τ) o
      · rw [d2] at u3
        simp (disch := omega) only [↓bnd_i, ↓cal_s, ↓cal_n, ↓cal2_s, ↓cal2_n, cal_s, cal2_s, ↓reduceIte, fa_lit, m1_lit, m2_lit, m1_lt, m2_lt, m1_eq, m2_eq, m1_le, m2_le, le_m1, le_m2, lt_m1, lt_m2, m12, m21, m1_m1, n_lt, n_le, n_eq, lt_t, lt_f, le_t, le_f, eq_t, eq_f, n_cl, inb_ok, n_add, pk_mul, pk_sub, n_rem, n_div, n_dec, n_mx, n_mn, eq_m1, eq_m2, ss_same, ss_ne, ss_r, ss_l, sr_f, sr_l, sr_same, sr_ne, sw_f, sw_l, sw_at, sw_ne, pk_us, pk_un, bI_t, bI_f, not_true_eq_false, not_false_eq_true, eq_self, and_true, true_and, and_false, false_and, or_true, true_or, or_false, false_or, decide_true, decide_false, Bool.false_eq_true, Bool.true_eq_false, ↓cal_w (t_ofCopy (τ := τ) (show o < 10 by omega) (show 1 < 4 by omega)), t_ofCopy (τ := τ) (show o < 10 by omega) (show 1 < 4 by omega), ↓cal_w (t_ofCopy (τ := τ) (show o < 10 by omega) (show 3 < 4 by omega)), t_ofCopy (τ := τ) (show o < 10 by omega) (show 3 < 4 by omega), h5, d, u3, d2]
      · rw [d2] at u3
        simp (disch := omega) only [↓bnd_i, ↓cal_s, ↓cal_n, ↓cal2_s, ↓cal2_n, cal_s, cal2_s, ↓reduceIte, fa_lit, m1_lit, m2_lit, m1_lt, m2_lt, m1_eq, m2_eq, m1_le, m2_le, le_m1, le_m2, lt_m1, lt_m2, m12, m21, m1_m1, n_lt, n_le, n_eq, lt_t, lt_f, le_t, le_f, eq_t, eq_f, n_cl, inb_ok, n_add, pk_mul, pk_sub, n_rem, n_div, n_dec, n_mx, n_mn, eq_m1, eq_m2, ss_same, ss_ne, ss_r, ss_l, sr_f, sr_l, sr_same, sr_ne, sw_f, sw_l, sw_at, sw_ne, pk_us, pk_un, bI_t, bI_f, not_true_eq_false, not_false_eq_true, eq_self, and_true, true_and, and_false, false_and, or_true, true_or, or_false, false_or, decide_true, decide_false, Bool.false_eq_true, Bool.true_eq_false, ↓cal_w (t_ofCopy (τ := τ) (show o < 10 by omega) (show 1 < 4 by omega)), t_ofCopy (τ := τ) (show o < 10 by omega) (show 1 < 4 by omega), ↓cal_w (t_ofCopy (τ := τ) (show o < 10 by omega) (show 3 < 4 by omega)), t_ofCopy (τ := τ) (show o < 10 by omega) (show 3 < 4 by omega), h5, d, u3, d2, f_X8_drop_63]
        exact ih'
    · simp (disch := omega) only [↓bnd_i, ↓cal_s, ↓cal_n, ↓cal2_s, ↓cal2_n, cal_s, cal2_s, ↓reduceIte, fa_lit, m1_lit, m2_lit, m1_lt, m2_lt, m1_eq, m2_eq, m1_le, m2_le, le_m1, le_m2, lt_m1, lt_m2, m12, m21, m1_m1, n_lt, n_le, n_eq, lt_t, lt_f, le_t, le_f, eq_t, eq_f, n_cl, inb_ok, n_add, pk_mul, pk_sub, n_rem, n_div, n_dec, n_mx, n_mn, eq_m1, eq_m2, ss_same, ss_ne, ss_r, ss_l, sr_f, sr_l, sr_same, sr_ne, sw_f, sw_l, sw_at, sw_ne, pk_us, pk_un, bI_t, bI_f, not_true_eq_false, not_false_eq_true, eq_self, and_true, true_and, and_false, false_and, or_true, true_or, or_false, false_or, decide_true, decide_false, Bool.false_eq_true, Bool.true_eq_false, ↓cal_w (t_ofCopy (τ := τ) (show o < 10 by omega) (show 1 < 4 by omega)), t_ofCopy (τ := τ) (show o < 10 by omega) (show 1 < 4 by omega), h5, eq_false d, f_X8_drop_63]
      exact ih'
theorem op_drop {F : Nat} (hF : 300 < F) {σ τ : St} (C : Core σ τ) (x : Int32) : Op σ τ (f_X7_drop F σ x) (f_X8_drop F τ x) := by
  obtain ⟨b1, b2, b3, b4, b5, b6, b7, b8⟩ := NNb C.1
  unfold f_X7_drop f_X8_drop f_X0_letGo
  cases c : isN x (nc (nw τ))
  · simp (disch := omega) only [↓bnd_i, ↓cal_s, ↓cal_n, ↓cal2_s, ↓cal2_n, cal_s, cal2_s, ↓reduceIte, fa_lit, m1_lit, m2_lit, m1_lt, m2_lt, m1_eq, m2_eq, m1_le, m2_le, le_m1, le_m2, lt_m1, lt_m2, m12, m21, m1_m1, n_lt, n_le, n_eq, lt_t, lt_f, le_t, le_f, eq_t, eq_f, n_cl, inb_ok, n_add, pk_mul, pk_sub, n_rem, n_div, n_dec, n_mx, n_mn, eq_m1, eq_m2, ss_same, ss_ne, ss_r, ss_l, sr_f, sr_l, sr_same, sr_ne, sw_f, sw_l, sw_at, sw_ne, pk_us, pk_un, bI_t, bI_f, not_true_eq_false, not_false_eq_true, eq_self, and_true, true_and, and_false, false_and, or_true, true_or, or_false, false_or, decide_true, decide_false, Bool.false_eq_true, Bool.true_eq_false, ↓cal_w (d_hasCopy C.1 C.2 x), d_hasCopy C.1 C.2 x, ↓cal_w (t_isCopy C.1.1 x), t_isCopy C.1.1 x, c]
    exact Op.same C _
  · obtain ⟨a, ha, rfl⟩ := isN_e c (by omega)
    have u1 : τ.2.1 19 (60 + 4 * a + 2) = bI (co (nw τ) a) := (C.1.2.2.2.2 a ha).2.1
    have u2 : τ.2.1 19 (60 + 4 * a + 3) = bI (cd (nw τ) a) := (C.1.2.2.2.2 a ha).2.2.1
    have o2 : σ.1 10 = nI (bs (cd (nw τ)) (nc (nw τ))) := C.2.2.2.2.1
    cases d : co (nw τ) a
    · rw [d] at u1
      cases d1 : cd (nw τ) a
      · rw [d1] at u2
        have w1 := d_carriesOne (F := F) (by omega) C.1 C.2 a
        have w2 := t_dropL (F := F) C.1 (show a < 10 by omega) (nc (nw τ)) 0 F (by omega) (by omega)
        cases d2 : crF (nw τ) a (nc (nw τ)) 0
        · rw [d2] at w1 w2
          simp (disch := omega) only [↓bnd_i, ↓cal_s, ↓cal_n, ↓cal2_s, ↓cal2_n, cal_s, cal2_s, ↓reduceIte, fa_lit, m1_lit, m2_lit, m1_lt, m2_lt, m1_eq, m2_eq, m1_le, m2_le, le_m1, le_m2, lt_m1, lt_m2, m12, m21, m1_m1, n_lt, n_le, n_eq, lt_t, lt_f, le_t, le_f, eq_t, eq_f, n_cl, inb_ok, n_add, pk_mul, pk_sub, n_rem, n_div, n_dec, n_mx, n_mn, eq_m1, eq_m2, ss_same, ss_ne, ss_r, ss_l, sr_f, sr_l, sr_same, sr_ne, sw_f, sw_l, sw_at, sw_ne, pk_us, pk_un, bI_t, bI_f, not_true_eq_false, not_false_eq_true, eq_self, and_true, true_and, and_false, false_and, or_true, true_or, or_false, false_or, decide_true, decide_false, Bool.false_eq_true, Bool.true_eq_false, ↓cal_w (d_hasCopy C.1 C.2 _), d_hasCopy C.1 C.2 _, ↓cal_w (d_isOpen C.1 C.2 ha), d_isOpen C.1 C.2 ha, ↓cal_w (d_isDropped C.1 C.2 ha), d_isDropped C.1 C.2 ha, ↓cal_w (w1), w1, ↓cal_w (t_isCopy C.1.1 _), t_isCopy C.1.1 _, ↓cal_w (t_ofCopy (τ := τ) (show a < 10 by omega) (show 2 < 4 by omega)), t_ofCopy (τ := τ) (show a < 10 by omega) (show 2 < 4 by omega), ↓cal_w (t_ofCopy (τ := τ) (show a < 10 by omega) (show 3 < 4 by omega)), t_ofCopy (τ := τ) (show a < 10 by omega) (show 3 < 4 by omega), ↓cal2_w (w2), w2, c, d, d1, u1, u2, o2, st_set, set_f]
          refine ⟨_, _, _, rfl, rfl, ?_, (Fr.refl σ).ss (by omega) (by omega), (FrM.refl τ).sr (by omega) (by omega), ?_⟩
          · unfold Core nw
            rw [sr_same]
            exact ⟨NN_cd C.1 ha true, JJ_cd C.1 C.2 ha true rfl⟩
          · unfold nw
            rw [sr_same, pk_un (by omega)]
        · rw [d2] at w1 w2
          simp (disch := omega) only [↓bnd_i, ↓cal_s, ↓cal_n, ↓cal2_s, ↓cal2_n, cal_s, cal2_s, ↓reduceIte, fa_lit, m1_lit, m2_lit, m1_lt, m2_lt, m1_eq, m2_eq, m1_le, m2_le, le_m1, le_m2, lt_m1, lt_m2, m12, m21, m1_m1, n_lt, n_le, n_eq, lt_t, lt_f, le_t, le_f, eq_t, eq_f, n_cl, inb_ok, n_add, pk_mul, pk_sub, n_rem, n_div, n_dec, n_mx, n_mn, eq_m1, eq_m2, ss_same, ss_ne, ss_r, ss_l, sr_f, sr_l, sr_same, sr_ne, sw_f, sw_l, sw_at, sw_ne, pk_us, pk_un, bI_t, bI_f, not_true_eq_false, not_false_eq_true, eq_self, and_true, true_and, and_false, false_and, or_true, true_or, or_false, false_or, decide_true, decide_false, Bool.false_eq_true, Bool.true_eq_false, ↓cal_w (d_hasCopy C.1 C.2 _), d_hasCopy C.1 C.2 _, ↓cal_w (d_isOpen C.1 C.2 ha), d_isOpen C.1 C.2 ha, ↓cal_w (d_isDropped C.1 C.2 ha), d_isDropped C.1 C.2 ha, ↓cal_w (w1), w1, ↓cal_w (t_isCopy C.1.1 _), t_isCopy C.1.1 _, ↓cal_w (t_ofCopy (τ := τ) (show a < 10 by omega) (show 2 < 4 by omega)), t_ofCopy (τ := τ) (show a < 10 by omega) (show 2 < 4 by omega), ↓cal_w (t_ofCopy (τ := τ) (show a < 10 by omega) (show 3 < 4 by omega)), t_ofCopy (τ := τ) (show a < 10 by omega) (show 3 < 4 by omega), ↓cal2_w (w2), w2, c, d, d1, u1, u2]
          exact Op.same C _
      · rw [d1] at u2
        simp (disch := omega) only [↓bnd_i, ↓cal_s, ↓cal_n, ↓cal2_s, ↓cal2_n, cal_s, cal2_s, ↓reduceIte, fa_lit, m1_lit, m2_lit, m1_lt, m2_lt, m1_eq, m2_eq, m1_le, m2_le, le_m1, le_m2, lt_m1, lt_m2, m12, m21, m1_m1, n_lt, n_le, n_eq, lt_t, lt_f, le_t, le_f, eq_t, eq_f, n_cl, inb_ok, n_add, pk_mul, pk_sub, n_rem, n_div, n_dec, n_mx, n_mn, eq_m1, eq_m2, ss_same, ss_ne, ss_r, ss_l, sr_f, sr_l, sr_same, sr_ne, sw_f, sw_l, sw_at, sw_ne, pk_us, pk_un, bI_t, bI_f, not_true_eq_false, not_false_eq_true, eq_self, and_true, true_and, and_false, false_and, or_true, true_or, or_false, false_or, decide_true, decide_false, Bool.false_eq_true, Bool.true_eq_false, ↓cal_w (d_hasCopy C.1 C.2 _), d_hasCopy C.1 C.2 _, ↓cal_w (d_isOpen C.1 C.2 ha), d_isOpen C.1 C.2 ha, ↓cal_w (d_isDropped C.1 C.2 ha), d_isDropped C.1 C.2 ha, ↓cal_w (t_isCopy C.1.1 _), t_isCopy C.1.1 _, ↓cal_w (t_ofCopy (τ := τ) (show a < 10 by omega) (show 2 < 4 by omega)), t_ofCopy (τ := τ) (show a < 10 by omega) (show 2 < 4 by omega), ↓cal_w (t_ofCopy (τ := τ) (show a < 10 by omega) (show 3 < 4 by omega)), t_ofCopy (τ := τ) (show a < 10 by omega) (show 3 < 4 by omega), c, d, d1, u1, u2]
        exact Op.same C _
    · rw [d] at u1
      simp (disch := omega) only [↓bnd_i, ↓cal_s, ↓cal_n, ↓cal2_s, ↓cal2_n, cal_s, cal2_s, ↓reduceIte, fa_lit, m1_lit, m2_lit, m1_lt, m2_lt, m1_eq, m2_eq, m1_le, m2_le, le_m1, le_m2, lt_m1, lt_m2, m12, m21, m1_m1, n_lt, n_le, n_eq, lt_t, lt_f, le_t, le_f, eq_t, eq_f, n_cl, inb_ok, n_add, pk_mul, pk_sub, n_rem, n_div, n_dec, n_mx, n_mn, eq_m1, eq_m2, ss_same, ss_ne, ss_r, ss_l, sr_f, sr_l, sr_same, sr_ne, sw_f, sw_l, sw_at, sw_ne, pk_us, pk_un, bI_t, bI_f, not_true_eq_false, not_false_eq_true, eq_self, and_true, true_and, and_false, false_and, or_true, true_or, or_false, false_or, decide_true, decide_false, Bool.false_eq_true, Bool.true_eq_false, ↓cal_w (d_hasCopy C.1 C.2 _), d_hasCopy C.1 C.2 _, ↓cal_w (d_isOpen C.1 C.2 ha), d_isOpen C.1 C.2 ha, ↓cal_w (t_isCopy C.1.1 _), t_isCopy C.1.1 _, ↓cal_w (t_ofCopy (τ := τ) (show a < 10 by omega) (show 2 < 4 by omega)), t_ofCopy (τ := τ) (show a < 10 by omega) (show 2 < 4 by omega), c, d, u1]
      exact Op.same C _
/-- a page is taken -/
def tkN (N : Nat → Int32) (c g : Nat) (l p v : Int32) : Nat → Int32 := upd (upd (upd (upd N (100 + 4 * (8 * c + g)) (nI 1)) (100 + 4 * (8 * c + g) + 1) l) (100 + 4 * (8 * c + g) + 2) p) (100 + 4 * (8 * c + g) + 3) v
theorem tkN_out {N : Nat → Int32} {c g j : Nat} {l p v : Int32} (h : j < 100 + 4 * (8 * c + g) ∨ 100 + 4 * (8 * c + g) + 3 < j) : tkN N c g l p v j = N j := by
  unfold tkN
  rw [pk_un (by omega), pk_un (by omega), pk_un (by omega), pk_un (by omega)]
theorem tkN_in {N : Nat → Int32} {c g : Nat} {l p v : Int32} : tkN N c g l p v (100 + 4 * (8 * c + g)) = nI 1 ∧ tkN N c g l p v (100 + 4 * (8 * c + g) + 1) = l ∧ tkN N c g l p v (100 + 4 * (8 * c + g) + 2) = p ∧ tkN N c g l p v (100 + 4 * (8 * c + g) + 3) = v := by
  unfold tkN
  refine ⟨?_, ?_, ?_, ?_⟩
  · rw [pk_un (by omega), pk_un (by omega), pk_un (by omega), pk_us]
  · rw [pk_un (by omega), pk_un (by omega), pk_us]
  · rw [pk_un (by omega), pk_us]
  · rw [pk_us]
theorem t_takes {F : Nat} {τ : St} {c g : Nat} (hc : c < 10) (hg : g < 8) (l p v : Int32) : f_X8_takes F τ (nI c) (nI g) l p v = some (sw τ 19 (tkN (nw τ) c g l p v)) := by
  unfold f_X8_takes tkN
  simp (disch := omega) only [↓bnd_i, ↓cal_s, ↓cal_n, ↓cal2_s, ↓cal2_n, cal_s, cal2_s, ↓reduceIte, fa_lit, m1_lit, m2_lit, m1_lt, m2_lt, m1_eq, m2_eq, m1_le, m2_le, le_m1, le_m2, lt_m1, lt_m2, m12, m21, m1_m1, n_lt, n_le, n_eq, lt_t, lt_f, le_t, le_f, eq_t, eq_f, n_cl, inb_ok, n_add, pk_mul, pk_sub, n_rem, n_div, n_dec, n_mx, n_mn, eq_m1, eq_m2, ss_same, ss_ne, ss_r, ss_l, sr_f, sr_l, sr_same, sr_ne, sw_f, sw_l, sw_at, sw_ne, pk_us, pk_un, bI_t, bI_f, not_true_eq_false, not_false_eq_true, eq_self, and_true, true_and, and_false, false_and, or_true, true_or, or_false, false_or, decide_true, decide_false, Bool.false_eq_true, Bool.true_eq_false, sr_as, sw_sw]
def puS (σ : St) (c g : Nat) (o l p v : Int32) : St := sr (sr (sr (sr σ 21 c o) 22 (c * 8 + g) l) 23 (c * 8 + g) p) 24 (c * 8 + g) v
theorem d_put {F : Nat} {σ : St} {N : Nat → Int32} (h : NN N) (j : JJ σ N) {c g : Nat} (hc : c < nc N) (hg : g < 8) (l p v : Int32) : f_X0_put F σ (nI c) (nI g) l p v = some (puS σ c g (nI (bs (fun i => if i = g then true else tk N c i) 8)) l p v) := by
  obtain ⟨b1, b2, b3, b4, b5, b6, b7, b8⟩ := NNb h
  obtain ⟨j1, j2, j3⟩ := j_cop j hc
  unfold f_X0_put puS
  simp (disch := omega) only [↓bnd_i, ↓cal_s, ↓cal_n, ↓cal2_s, ↓cal2_n, cal_s, cal2_s, ↓reduceIte, fa_lit, m1_lit, m2_lit, m1_lt, m2_lt, m1_eq, m2_eq, m1_le, m2_le, le_m1, le_m2, lt_m1, lt_m2, m12, m21, m1_m1, n_lt, n_le, n_eq, lt_t, lt_f, le_t, le_f, eq_t, eq_f, n_cl, inb_ok, n_add, pk_mul, pk_sub, n_rem, n_div, n_dec, n_mx, n_mn, eq_m1, eq_m2, ss_same, ss_ne, ss_r, ss_l, sr_f, sr_l, sr_same, sr_ne, sw_f, sw_l, sw_at, sw_ne, pk_us, pk_un, bI_t, bI_f, not_true_eq_false, not_false_eq_true, eq_self, and_true, true_and, and_false, false_and, or_true, true_or, or_false, false_or, decide_true, decide_false, Bool.false_eq_true, Bool.true_eq_false, ↓cal_w (d_hasCopy h j _), d_hasCopy h j _, isN_t hc (show nc N ≤ 2 ^ 31 by omega), j3, st_set, set_f]
theorem tk_tkN {N : Nat → Int32} {c g a b : Nat} {l p v : Int32} (hg : g < 8) (hb : b < 8) : tk (tkN N c g l p v) a b = if a = c ∧ b = g then true else tk N a b := by
  unfold tk
  by_cases d : a = c ∧ b = g
  · rw [if_pos d, d.1, d.2, tkN_in.1]; decide
  · rw [if_neg d, tkN_out (by omega)]
theorem NN_tk {N : Nat → Int32} (h : NN N) {c g l p : Nat} (hc : c < nc N) (hg : g < pg N) (hl : l < 8) (hp : p ≤ 240) (v : Int32) : NN (tkN N c g (nI l) (nI p) v) := by
  obtain ⟨b1, b2, b3, b4, b5, b6, b7, b8⟩ := NNb h
  have e : EqX N (tkN N c g (nI l) (nI p) v) := fun j hj h5 => tkN_out (by omega)
  have p5 : nc (tkN N c g (nI l) (nI p) v) = nc N := by unfold nc; rw [tkN_out (by omega)]
  refine NN_x h e ⟨by rw [p5, tkN_out (by omega)]; exact h.1.2.2.2.2.2.1.1, by omega⟩ ?_
  intro a ha
  rw [p5] at ha
  obtain ⟨c1, c2, c3, c4⟩ := h.2.2.2.2 a ha
  rw [e.acc.1]
  unfold co cd at *
  rw [tkN_out (show 60 + 4 * a + 1 < _ ∨ _ by omega), tkN_out (show 60 + 4 * a + 2 < _ ∨ _ by omega), tkN_out (show 60 + 4 * a + 3 < _ ∨ _ by omega)]
  refine ⟨c1, c2, c3, fun b hb => ?_⟩
  rw [tk_tkN (by omega) hb]
  unfold tl tw
  by_cases d : a = c ∧ b = g
  · rw [if_pos d, d.1, d.2, tkN_in.1, tkN_in.2.1, tkN_in.2.2.1, n_cl (by omega), n_cl (by omega)]
    exact ⟨rfl, fun _ => ⟨hg, rfl, hl, rfl, hp⟩⟩
  · rw [if_neg d, tkN_out (by omega), tkN_out (by omega), tkN_out (by omega)]
    exact c4 b hb
theorem JJ_tk {σ : St} {N : Nat → Int32} (h : NN N) (j : JJ σ N) {c g l p : Nat} (hc : c < nc N) (hg : g < 8) (hl : l < 8) (hp : p ≤ 240) (v : Int32) : JJ (puS σ c g (nI (bs (fun i => if i = g then true else tk N c i) 8)) (nI l) (nI p) v) (tkN N c g (nI l) (nI p) v) := by
  obtain ⟨b1, b2, b3, b4, b5, b6, b7, b8⟩ := NNb h
  have p5 : nc (tkN N c g (nI l) (nI p) v) = nc N := by unfold nc; rw [tkN_out (by omega)]
  have f0 : (puS σ c g (nI (bs (fun i => if i = g then true else tk N c i) 8)) (nI l) (nI p) v).1 = σ.1 := rfl
  refine JJ_x h j (fun j hj h5 => tkN_out (by omega)) ?_ ?_ ?_ ⟨?_, ?_, ?_⟩
  · rw [f0, tkN_out (by omega)]; exact j.1.1.2.2.2.2
  · intro k h1 h2; rw [f0]
  · intro r h1 h2
    unfold puS
    rw [sr_ne (by omega), sr_ne (by omega), sr_ne (by omega), sr_ne (by omega)]
  · rw [f0, p5, j.2.2.1]
    congr 1
    exact bs_cong (fun a ha => by unfold co; rw [tkN_out (by omega)])
  · rw [f0, p5, j.2.2.2.1]
    congr 1
    exact bs_cong (fun a ha => by unfold cd; rw [tkN_out (by omega)])
  · intro a ha
    rw [p5] at ha
    obtain ⟨x1, x2, x3, x4⟩ := j.2.2.2.2 a ha
    unfold puS
    rw [tkN_out (show 60 + 4 * a < _ ∨ _ by omega), tkN_out (show 60 + 4 * a + 1 < _ ∨ _ by omega)]
    rw [sr_ne (b := 19) (by omega), sr_ne (b := 19) (by omega), sr_ne (b := 19) (by omega), sr_ne (b := 19) (by omega), sr_ne (b := 20) (by omega), sr_ne (b := 20) (by omega), sr_ne (b := 20) (by omega), sr_ne (b := 20) (by omega)]
    rw [sr_ne (b := 21) (by omega), sr_ne (b := 21) (by omega), sr_ne (b := 21) (by omega), sr_same (a := 21), sr_ne (b := 22) (by omega), sr_ne (b := 22) (by omega), sr_same (a := 22), sr_ne (b := 22) (by omega), sr_ne (b := 23) (by omega), sr_same (a := 23), sr_ne (b := 23) (by omega), sr_ne (b := 23) (by omega), sr_same (a := 24), sr_ne (b := 24) (by omega), sr_ne (b := 24) (by omega), sr_ne (b := 24) (by omega)]
    refine ⟨x1, x2, ?_, fun b hb hk => ?_⟩
    · by_cases d : a = c
      · subst d
        rw [pk_us]
        congr 1
        refine bs_cong (fun i hi => ?_)
        rw [tk_tkN (by omega) hi]
        by_cases d2 : i = g
        · simp [d2]
        · simp [d2]
      · rw [pk_un d, x3]
        congr 1
        refine bs_cong (fun i hi => ?_)
        rw [tk_tkN (by omega) hi, if_neg (fun q => d q.1)]
    · rw [tk_tkN hg hb] at hk
      unfold tl tw
      by_cases d : a = c ∧ b = g
      · obtain ⟨rfl, rfl⟩ := d
        rw [Nat.mul_comm 8 a, pk_us, pk_us, pk_us, Nat.mul_comm a 8, tkN_in.2.1, tkN_in.2.2.1, tkN_in.2.2.2, n_cl (by omega), n_cl (by omega)]
        exact ⟨rfl, rfl, rfl⟩
      · rw [if_neg d] at hk
        rw [pk_un (by omega), pk_un (by omega), pk_un (by omega), tkN_out (by omega), tkN_out (by omega), tkN_out (by omega)]
        exact x4 b hb hk
theorem Fr.puS {σ σ' : St} {c g : Nat} {o l p v : Int32} (h : Fr σ σ') : Fr σ (puS σ' c g o l p v) := (((h.sr (by omega) (by omega)).sr (by omega) (by omega)).sr (by omega) (by omega)).sr (by omega) (by omega)
theorem op_take {F : Nat} (hF : 300 < F) {σ τ : St} (C : Core σ τ) (x y : Int32) : Op σ τ (f_X7_take F σ x y) (f_X8_take F τ x y) := by
  obtain ⟨b1, b2, b3, b4, b5, b6, b7, b8⟩ := NNb C.1
  have h3 : τ.2.1 19 3 = nI (nl (nw τ) - 1) := C.1.1.2.2.2.1
  unfold f_X7_take f_X8_take
  cases c : isN x (nc (nw τ))
  · simp (disch := omega) only [↓bnd_i, ↓cal_s, ↓cal_n, ↓cal2_s, ↓cal2_n, cal_s, cal2_s, ↓reduceIte, fa_lit, m1_lit, m2_lit, m1_lt, m2_lt, m1_eq, m2_eq, m1_le, m2_le, le_m1, le_m2, lt_m1, lt_m2, m12, m21, m1_m1, n_lt, n_le, n_eq, lt_t, lt_f, le_t, le_f, eq_t, eq_f, n_cl, inb_ok, n_add, pk_mul, pk_sub, n_rem, n_div, n_dec, n_mx, n_mn, eq_m1, eq_m2, ss_same, ss_ne, ss_r, ss_l, sr_f, sr_l, sr_same, sr_ne, sw_f, sw_l, sw_at, sw_ne, pk_us, pk_un, bI_t, bI_f, not_true_eq_false, not_false_eq_true, eq_self, and_true, true_and, and_false, false_and, or_true, true_or, or_false, false_or, decide_true, decide_false, Bool.false_eq_true, Bool.true_eq_false, ↓cal_w (d_going C.1 C.2), d_going C.1 C.2, ↓cal_w (d_isOpenN C.1 C.2 c), d_isOpenN C.1 C.2 c, ↓cal_w (t_isCopy C.1.1 x), t_isCopy C.1.1 x, c]
    exact Op.same C _
  · obtain ⟨a, ha, rfl⟩ := isN_e c (by omega)
    have u1 : τ.2.1 19 (60 + 4 * a + 2) = bI (co (nw τ) a) := (C.1.2.2.2.2 a ha).2.1
    have hll : nl (nw τ) - 1 < nl (nw τ) := by omega
    have hl8 : nl (nw τ) - 1 < 8 := by omega
    have ht := C.1.2.1.1 (nl (nw τ) - 1) hll
    cases e : isN y (pg (nw τ))
    · cases d : co (nw τ) a
      · simp (disch := omega) only [↓bnd_i, ↓cal_s, ↓cal_n, ↓cal2_s, ↓cal2_n, cal_s, cal2_s, ↓reduceIte, fa_lit, m1_lit, m2_lit, m1_lt, m2_lt, m1_eq, m2_eq, m1_le, m2_le, le_m1, le_m2, lt_m1, lt_m2, m12, m21, m1_m1, n_lt, n_le, n_eq, lt_t, lt_f, le_t, le_f, eq_t, eq_f, n_cl, inb_ok, n_add, pk_mul, pk_sub, n_rem, n_div, n_dec, n_mx, n_mn, eq_m1, eq_m2, ss_same, ss_ne, ss_r, ss_l, sr_f, sr_l, sr_same, sr_ne, sw_f, sw_l, sw_at, sw_ne, pk_us, pk_un, bI_t, bI_f, not_true_eq_false, not_false_eq_true, eq_self, and_true, true_and, and_false, false_and, or_true, true_or, or_false, false_or, decide_true, decide_false, Bool.false_eq_true, Bool.true_eq_false, ↓cal_w (d_going C.1 C.2), d_going C.1 C.2, ↓cal_w (d_isOpen C.1 C.2 ha), d_isOpen C.1 C.2 ha, ↓cal_w (t_isCopy C.1.1 _), t_isCopy C.1.1 _, ↓cal_w (t_isPage C.1.1 y), t_isPage C.1.1 y, c, d, e]
        exact Op.same C _
      · by_cases d2 : nw τ (60 + 4 * a) = nI (nl (nw τ) - 1)
        · simp (disch := omega) only [↓bnd_i, ↓cal_s, ↓cal_n, ↓cal2_s, ↓cal2_n, cal_s, cal2_s, ↓reduceIte, fa_lit, m1_lit, m2_lit, m1_lt, m2_lt, m1_eq, m2_eq, m1_le, m2_le, le_m1, le_m2, lt_m1, lt_m2, m12, m21, m1_m1, n_lt, n_le, n_eq, lt_t, lt_f, le_t, le_f, eq_t, eq_f, n_cl, inb_ok, n_add, pk_mul, pk_sub, n_rem, n_div, n_dec, n_mx, n_mn, eq_m1, eq_m2, ss_same, ss_ne, ss_r, ss_l, sr_f, sr_l, sr_same, sr_ne, sw_f, sw_l, sw_at, sw_ne, pk_us, pk_un, bI_t, bI_f, not_true_eq_false, not_false_eq_true, eq_self, and_true, true_and, and_false, false_and, or_true, true_or, or_false, false_or, decide_true, decide_false, Bool.false_eq_true, Bool.true_eq_false, ↓cal_w (d_going C.1 C.2), d_going C.1 C.2, ↓cal_w (d_isOpen C.1 C.2 ha), d_isOpen C.1 C.2 ha, ↓cal_w (d_lineOf C.1 C.2 ha), d_lineOf C.1 C.2 ha, ↓cal_w (d_hasPage C.1 C.2 y), d_hasPage C.1 C.2 y, ↓cal_w (t_isCopy C.1.1 _), t_isCopy C.1.1 _, ↓cal_w (t_isPage C.1.1 y), t_isPage C.1.1 y, c, d, e, d2]
          exact Op.same C _
        · simp (disch := omega) only [↓bnd_i, ↓cal_s, ↓cal_n, ↓cal2_s, ↓cal2_n, cal_s, cal2_s, ↓reduceIte, fa_lit, m1_lit, m2_lit, m1_lt, m2_lt, m1_eq, m2_eq, m1_le, m2_le, le_m1, le_m2, lt_m1, lt_m2, m12, m21, m1_m1, n_lt, n_le, n_eq, lt_t, lt_f, le_t, le_f, eq_t, eq_f, n_cl, inb_ok, n_add, pk_mul, pk_sub, n_rem, n_div, n_dec, n_mx, n_mn, eq_m1, eq_m2, ss_same, ss_ne, ss_r, ss_l, sr_f, sr_l, sr_same, sr_ne, sw_f, sw_l, sw_at, sw_ne, pk_us, pk_un, bI_t, bI_f, not_true_eq_false, not_false_eq_true, eq_self, and_true, true_and, and_false, false_and, or_true, true_or, or_false, false_or, decide_true, decide_false, Bool.false_eq_true, Bool.true_eq_false, ↓cal_w (d_going C.1 C.2), d_going C.1 C.2, ↓cal_w (d_isOpen C.1 C.2 ha), d_isOpen C.1 C.2 ha, ↓cal_w (d_lineOf C.1 C.2 ha), d_lineOf C.1 C.2 ha, ↓cal_w (d_hasPage C.1 C.2 y), d_hasPage C.1 C.2 y, ↓cal_w (t_isCopy C.1.1 _), t_isCopy C.1.1 _, ↓cal_w (t_isPage C.1.1 y), t_isPage C.1.1 y, c, d, e, eq_false d2]
          exact Op.same C _
    · obtain ⟨g, hg, rfl⟩ := isN_e e (by omega)
      cases d : co (nw τ) a
      · rw [d] at u1
        simp (disch := omega) only [↓bnd_i, ↓cal_s, ↓cal_n, ↓cal2_s, ↓cal2_n, cal_s, cal2_s, ↓reduceIte, fa_lit, m1_lit, m2_lit, m1_lt, m2_lt, m1_eq, m2_eq, m1_le, m2_le, le_m1, le_m2, lt_m1, lt_m2, m12, m21, m1_m1, n_lt, n_le, n_eq, lt_t, lt_f, le_t, le_f, eq_t, eq_f, n_cl, inb_ok, n_add, pk_mul, pk_sub, n_rem, n_div, n_dec, n_mx, n_mn, eq_m1, eq_m2, ss_same, ss_ne, ss_r, ss_l, sr_f, sr_l, sr_same, sr_ne, sw_f, sw_l, sw_at, sw_ne, pk_us, pk_un, bI_t, bI_f, not_true_eq_false, not_false_eq_true, eq_self, and_true, true_and, and_false, false_and, or_true, true_or, or_false, false_or, decide_true, decide_false, Bool.false_eq_true, Bool.true_eq_false, ↓cal_w (d_going C.1 C.2), d_going C.1 C.2, ↓cal_w (d_isOpen C.1 C.2 ha), d_isOpen C.1 C.2 ha, ↓cal_w (t_isCopy C.1.1 _), t_isCopy C.1.1 _, ↓cal_w (t_isPage C.1.1 _), t_isPage C.1.1 _, ↓cal_w (t_ofCopy (τ := τ) (show a < 10 by omega) (show 2 < 4 by omega)), t_ofCopy (τ := τ) (show a < 10 by omega) (show 2 < 4 by omega), c, d, e, u1]
        exact Op.same C _
      · rw [d] at u1
        by_cases d2 : nw τ (60 + 4 * a) = nI (nl (nw τ) - 1)
        · have v1 := d_valueAs hF C.1 C.2 hll (Nat.le_refl _) (ne_m1 (show g < 2 ^ 31 by omega))
          have v2 := t_pageAt hF C.1 hll (Nat.le_refl _) (nI g)
          simp (disch := omega) only [↓bnd_i, ↓cal_s, ↓cal_n, ↓cal2_s, ↓cal2_n, cal_s, cal2_s, ↓reduceIte, fa_lit, m1_lit, m2_lit, m1_lt, m2_lt, m1_eq, m2_eq, m1_le, m2_le, le_m1, le_m2, lt_m1, lt_m2, m12, m21, m1_m1, n_lt, n_le, n_eq, lt_t, lt_f, le_t, le_f, eq_t, eq_f, n_cl, inb_ok, n_add, pk_mul, pk_sub, n_rem, n_div, n_dec, n_mx, n_mn, eq_m1, eq_m2, ss_same, ss_ne, ss_r, ss_l, sr_f, sr_l, sr_same, sr_ne, sw_f, sw_l, sw_at, sw_ne, pk_us, pk_un, bI_t, bI_f, not_true_eq_false, not_false_eq_true, eq_self, and_true, true_and, and_false, false_and, or_true, true_or, or_false, false_or, decide_true, decide_false, Bool.false_eq_true, Bool.true_eq_false, ↓cal_w (d_going C.1 C.2), d_going C.1 C.2, ↓cal_w (d_isOpen C.1 C.2 ha), d_isOpen C.1 C.2 ha, ↓cal_w (d_lineOf C.1 C.2 ha), d_lineOf C.1 C.2 ha, ↓cal_w (d_hasPage C.1 C.2 _), d_hasPage C.1 C.2 _, ↓cal_w (d_now C.1.1 C.2.1), d_now C.1.1 C.2.1, ↓cal_w (v1), v1, ↓cal_w (d_put C.1 C.2 ha (show g < 8 by omega) _ _ _), d_put C.1 C.2 ha (show g < 8 by omega) _ _ _, ↓cal_w (t_isCopy C.1.1 _), t_isCopy C.1.1 _, ↓cal_w (t_isPage C.1.1 _), t_isPage C.1.1 _, ↓cal_w (t_ofCopy (τ := τ) (show a < 10 by omega) (show 2 < 4 by omega)), t_ofCopy (τ := τ) (show a < 10 by omega) (show 2 < 4 by omega), ↓cal_w (t_ofCopy (τ := τ) (show a < 10 by omega) (show 0 < 4 by omega)), t_ofCopy (τ := τ) (show a < 10 by omega) (show 0 < 4 by omega), ↓cal_w (t_placeOf (τ := τ) (show nl (nw τ) - 1 < 8 by omega)), t_placeOf (τ := τ) (show nl (nw τ) - 1 < 8 by omega), ↓cal_w (v2), v2, ↓cal_w (t_takes (τ := τ) (show a < 10 by omega) (show g < 8 by omega) _ _ _), t_takes (τ := τ) (show a < 10 by omega) (show g < 8 by omega) _ _ _, c, d, e, u1, d2, h3, ht.1, Nat.add_zero]
          refine ⟨_, _, _, rfl, rfl, ?_, (Fr.refl σ).puS, (FrM.refl τ).sw (by omega) (by omega), ?_⟩
          · unfold Core nw
            rw [sw_at]
            exact ⟨NN_tk C.1 ha hg hl8 ht.2 _, JJ_tk C.1 C.2 ha (by omega) hl8 ht.2 _⟩
          · unfold nw
            rw [sw_at, tkN_out (by omega)]
        · simp (disch := omega) only [↓bnd_i, ↓cal_s, ↓cal_n, ↓cal2_s, ↓cal2_n, cal_s, cal2_s, ↓reduceIte, fa_lit, m1_lit, m2_lit, m1_lt, m2_lt, m1_eq, m2_eq, m1_le, m2_le, le_m1, le_m2, lt_m1, lt_m2, m12, m21, m1_m1, n_lt, n_le, n_eq, lt_t, lt_f, le_t, le_f, eq_t, eq_f, n_cl, inb_ok, n_add, pk_mul, pk_sub, n_rem, n_div, n_dec, n_mx, n_mn, eq_m1, eq_m2, ss_same, ss_ne, ss_r, ss_l, sr_f, sr_l, sr_same, sr_ne, sw_f, sw_l, sw_at, sw_ne, pk_us, pk_un, bI_t, bI_f, not_true_eq_false, not_false_eq_true, eq_self, and_true, true_and, and_false, false_and, or_true, true_or, or_false, false_or, decide_true, decide_false, Bool.false_eq_true, Bool.true_eq_false, ↓cal_w (d_going C.1 C.2), d_going C.1 C.2, ↓cal_w (d_isOpen C.1 C.2 ha), d_isOpen C.1 C.2 ha, ↓cal_w (d_lineOf C.1 C.2 ha), d_lineOf C.1 C.2 ha, ↓cal_w (t_isCopy C.1.1 _), t_isCopy C.1.1 _, ↓cal_w (t_isPage C.1.1 _), t_isPage C.1.1 _, ↓cal_w (t_ofCopy (τ := τ) (show a < 10 by omega) (show 2 < 4 by omega)), t_ofCopy (τ := τ) (show a < 10 by omega) (show 2 < 4 by omega), ↓cal_w (t_ofCopy (τ := τ) (show a < 10 by omega) (show 0 < 4 by omega)), t_ofCopy (τ := τ) (show a < 10 by omega) (show 0 < 4 by omega), c, d, e, u1, eq_false d2, h3, Nat.add_zero]
          exact Op.same C _
