/-! PURE: sets as bits -/
theorem bs_lt {f : Nat → Bool} : ∀ n, bs f n < 2 ^ n
  | 0 => by simp [bs]
  | n + 1 => by
    have := bs_lt (f := f) n
    rw [bs, Nat.pow_succ]
    split <;> omega
theorem bs_bit {f : Nat → Bool} (i : Nat) : ∀ n, (bs f n).testBit i = (decide (i < n) && f i)
  | 0 => by simp [bs]
  | n + 1 => by
    have ih := bs_bit (f := f) i n
    rw [bs]
    cases c : f n
    · simp only [Bool.false_eq_true, if_false, Nat.add_zero, ih]
      by_cases h : i = n
      · subst h; simp [c]
      · congr 1; exact decide_eq_decide.mpr (by omega)
    · simp only [if_true]
      have e := Nat.two_pow_add_eq_or_of_lt (bs_lt (f := f) n) 1
      rw [Nat.mul_one] at e
      rw [Nat.add_comm, e, Nat.testBit_or, ih, Nat.testBit_two_pow]
      by_cases h : n = i
      · subst h; simp [c]
      · have : decide (n = i) = false := decide_eq_false h
        rw [this, Bool.false_or]; congr 1; exact decide_eq_decide.mpr (by omega)
theorem bt_nI (a : Nat) {i : Nat} (hi : i < 32) : bt (nI a) i = a.testBit i := by
  show (BitVec.ofNat 32 a).getLsbD i = _
  rw [BitVec.getLsbD_ofNat]; simp [hi]
theorem bt_bs {f : Nat → Bool} {n i : Nat} (hi : i < 32) : bt (nI (bs f n)) i = (decide (i < n) && f i) := by rw [bt_nI _ hi, bs_bit]
theorem bt_shA : ∀ k, k < 32 → ∀ i, i < 32 → bt (nI 1 <<< (nI k &&& nI 31)) i = decide (i = k) := by decide +kernel
theorem bt_sh {k i : Nat} (hk : k < 32) (hi : i < 32) : bt (nI 1 <<< (nI k &&& nI 31)) i = decide (i = k) := bt_shA k hk i hi
theorem bt_1 : ∀ i, i < 32 → bt (nI 1) i = decide (i = 0) := by decide +kernel
theorem bt_bI (b : Bool) {i : Nat} (hi : i < 32) : bt (bI b) i = (b && decide (i = 0)) := by
  cases b
  · rw [bI_f, bt_nI _ hi, Nat.zero_testBit, Bool.false_and]
  · rw [bI_t, bt_1 i hi, Bool.true_and]
theorem st_or {f g : Nat → Bool} {n : Nat} : nI (bs f n) ||| nI (bs g n) = nI (bs (fun i => f i || g i) n) := b_ext (fun i hi => by rw [b_or, bt_bs hi, bt_bs hi, bt_bs hi, Bool.and_or_distrib_left])
theorem st_set {f : Nat → Bool} {n k : Nat} (hn : n ≤ 32) (hk : k < n) : nI (bs f n) ||| (nI 1 <<< (nI k &&& nI 31)) = nI (bs (fun i => f i || decide (i = k)) n) := b_ext (fun i hi => by
  rw [b_or, bt_bs hi, bt_bs hi, bt_sh (by omega) hi]
  by_cases c : i = k
  · subst c; simp [hk]
  · simp [c])
theorem st_app {f : Nat → Bool} {n : Nat} (hn : n < 32) : nI (bs f n) ||| (nI 1 <<< (nI n &&& nI 31)) = nI (bs (fun i => f i || decide (i = n)) (n + 1)) := b_ext (fun i hi => by
  rw [b_or, bt_bs hi, bt_bs hi, bt_sh hn hi]
  by_cases c : i = n
  · subst c; simp
  · have : (decide (i < n + 1)) = decide (i < n) := decide_eq_decide.mpr (by omega)
    rw [this]; simp [c])
theorem st_clr {f : Nat → Bool} {n k : Nat} (hk : k < 32) : nI (bs f n) &&& ((nI 1 <<< (nI k &&& nI 31)) ^^^ m1) = nI (bs (fun i => f i && !decide (i = k)) n) := b_ext (fun i hi => by
  rw [b_and, b_xor, bt_bs hi, bt_bs hi, bt_sh hk hi, show bt m1 i = true from b_m1 i hi, Bool.and_assoc]
  simp)
theorem st_tst {f : Nat → Bool} {n k : Nat} (hn : n ≤ 31) (hk : k < n) : (nI (bs f n) >>> (nI k &&& nI 31)) &&& nI 1 = bI (f k) := b_ext (fun i hi => by
  have e : bt (nI (bs f n) >>> (nI k &&& nI 31)) i = _ := b_sshr k (by omega) (nI (bs f n)) hi
  rw [b_and, e, bt_1 i hi, bt_bI _ hi]
  by_cases c : i = 0
  · subst c
    rw [if_pos (by omega), bt_bs (by omega), Nat.add_zero]; simp [hk]
  · simp [c])
theorem st_full : ∀ p, p ≤ 8 → (nI 1 <<< (nI p &&& nI 31)) - nI 1 = nI (bs (fun i => decide (i < p)) 8) := by decide +kernel
theorem st_eq {f g : Nat → Bool} {n : Nat} (hn : n ≤ 32) : (nI (bs f n) = nI (bs g n)) = ∀ i, i < n → f i = g i := propext ⟨fun h i hi => by
    have e := congrArg (fun x => bt x i) h
    simp only [bt_bs (show i < 32 by omega), hi, decide_true, Bool.true_and] at e
    exact e, fun h => by rw [bs_cong h]⟩
theorem bs_ext {f : Nat → Bool} {n m : Nat} (hnm : n ≤ m) (h : ∀ i, n ≤ i → i < m → f i = false) : bs f m = bs f n := by
  induction m with
  | zero => rw [show n = 0 by omega]
  | succ m ih =>
    by_cases c : n = m + 1
    · rw [c]
    · rw [bs, h m (by omega) (by omega), ih (by omega) (fun i h1 h2 => h i h1 (by omega))]
      simp
theorem st_T {f : Nat → Bool} {n : Nat} (hn : n < 32) (h : f n = true) : nI (bs f n) ||| (nI 1 <<< (nI n &&& nI 31)) = nI (bs f (n + 1)) := by
  rw [st_app hn]
  congr 1
  refine bs_cong (fun i hi => ?_)
  by_cases c : i = n
  · subst c; simp [h]
  · simp [c]
theorem st_F {f : Nat → Bool} {n : Nat} (h : f n = false) : nI (bs f n) = nI (bs f (n + 1)) := by
  rw [bs, h]; simp
theorem st_nn {f : Nat → Bool} {n : Nat} (hn : n ≤ 20) : bs f n < 2 ^ 31 := Nat.lt_of_lt_of_le (bs_lt n) (Nat.pow_le_pow_right (by omega) (by omega))
/-! PURE: copies -/
theorem up_in {N : Nat → Int32} (h : NN N) {c : Nat} (hc : c < nc N) : (N (60 + 4 * c + 1) = m2 ∧ up N c = none) ∨ ∃ u, u < c ∧ N (60 + 4 * c + 1) = nI u ∧ up N c = some u := by
  have b8 := (NNb h).2.2.2.2.2.2.2
  rcases (h.2.2.2.2 c hc).1 with e | ⟨u, hu, e⟩
  · refine Or.inl ⟨e, ?_⟩
    unfold up
    rw [e, if_pos m2_neg]
  · refine Or.inr ⟨u, hu, e, ?_⟩
    unfold up
    rw [e, if_neg (nI_pos (by omega)), n_cl (by omega)]
/-- the copy of a chain that has taken a page -/
def tcF (N : Nat → Int32) : Nat → Nat → Nat → Option Nat
  | 0, _, _ => none
  | f + 1, c, g => if tk N c g then some c else match up N c with
    | none => none
    | some u => tcF N f u g
def tc (N : Nat → Int32) (c g : Nat) : Option Nat := tcF N 10 c g
theorem tcF_s {N : Nat → Int32} {f c g : Nat} : tcF N (f + 1) c g = if tk N c g then some c else match up N c with
    | none => none
    | some u => tcF N f u g := rfl
theorem tcF_in {N : Nat → Int32} (h : NN N) {g : Nat} : ∀ f c a, c < nc N → tcF N f c g = some a → a ≤ c ∧ tk N a g = true := by
  intro f
  induction f with
  | zero => intro c a _ e; cases e
  | succ f ih =>
    intro c a hc e
    rw [tcF_s] at e
    cases d : tk N c g
    · rw [d] at e
      rcases up_in h hc with ⟨-, e2⟩ | ⟨u, hu, -, e2⟩
      · rw [e2] at e; cases e
      · rw [e2] at e
        have := ih u a (by omega) e
        exact ⟨by omega, this.2⟩
    · rw [d] at e
      simp at e
      subst e
      exact ⟨Nat.le_refl _, d⟩
theorem tc_in {N : Nat → Int32} (h : NN N) {c g a : Nat} (hc : c < nc N) (hg : g < 8) (e : tc N c g = some a) : a ≤ c ∧ a < nc N ∧ tk N a g = true ∧ g < pg N ∧ N (100 + 4 * (8 * a + g) + 1) = nI (tl N a g) ∧ tl N a g < 8 ∧ N (100 + 4 * (8 * a + g) + 2) = nI (tw N a g) ∧ tw N a g ≤ 240 := by
  obtain ⟨h1, h2⟩ := tcF_in h 10 c a hc e
  obtain ⟨-, -, -, q⟩ := h.2.2.2.2 a (by omega)
  obtain ⟨x1, x2, x3, x4, x5⟩ := (q g hg).2 h2
  exact ⟨h1, by omega, h2, x1, x2, x3, x4, x5⟩
theorem j_cop {σ : St} {N : Nat → Int32} (j : JJ σ N) {c : Nat} (hc : c < nc N) : σ.2.1 19 c = N (60 + 4 * c) ∧ σ.2.1 20 c = N (60 + 4 * c + 1) ∧ σ.2.1 21 c = nI (bs (tk N c) 8) := ⟨(j.2.2.2.2 c hc).1, (j.2.2.2.2 c hc).2.1, (j.2.2.2.2 c hc).2.2.1⟩
theorem j_cell {σ : St} {N : Nat → Int32} (j : JJ σ N) {c g : Nat} (hc : c < nc N) (hg : g < 8) (h : tk N c g = true) : σ.2.1 22 (c * 8 + g) = nI (tl N c g) ∧ σ.2.1 23 (c * 8 + g) = nI (tw N c g) ∧ σ.2.1 24 (c * 8 + g) = N (100 + 4 * (8 * c + g) + 3) := by
  rw [Nat.mul_comm c 8]; exact (j.2.2.2.2 c hc).2.2.2 g hg h
/-- the cell's number, or -1 -/
def cl (o : Option Nat) (g : Nat) : Int32 := match o with
  | none => m1
  | some a => nI (a * 8 + g)
def ta (o : Option Nat) (g : Nat) : Int32 := match o with
  | none => m1
  | some a => nI (100 + 4 * (8 * a + g))
theorem d_hasCopyM {F : Nat} {σ : St} {N : Nat → Int32} (h : NN N) (j : JJ σ N) : f_X0_hasCopy F σ m2 = some (nI 0) := by
  rw [d_hasCopy h j]; simp [isN, m2_neg]; rfl
theorem d_cellOf {F : Nat} (hF : 20 < F) {σ : St} {N : Nat → Int32} (h : NN N) (j : JJ σ N) {c g : Nat} (hc : c < nc N) (hg : g < 8) : f_X0_cellOf F σ (nI c) (nI g) = some (cl (tc N c g) g) := by
  obtain ⟨b1, b2, b3, b4, b5, b6, b7, b8⟩ := NNb h
  have key : ∀ n f c s, c < nc N → c < f → c + 1 < n → c + s < 10 → f_X0_cellOf_17 F n σ (nI g) (nI c) (nI s) = some (cl (tcF N f c g) g) := by
    intro n
    induction n with
    | zero => intro f c s _ _ h; omega
    | succ n ih =>
      intro f c s hc hf hn hs
      obtain ⟨f, rfl⟩ : ∃ k, f = k + 1 := ⟨f - 1, by omega⟩
      obtain ⟨j1, j2, j3⟩ := j_cop j hc
      rw [f_X0_cellOf_17, tcF_s]
      cases d : tk N c g
      · rcases up_in h hc with ⟨e1, e2⟩ | ⟨u, hu, e1, e2⟩
        · simp (disch := omega) only [↓bnd_i, ↓cal_s, ↓cal_n, ↓cal2_s, ↓cal2_n, cal_s, cal2_s, ↓reduceIte, fa_lit, m1_lit, m2_lit, m1_lt, m2_lt, m1_eq, m2_eq, m1_le, m2_le, le_m1, le_m2, lt_m1, lt_m2, m12, m21, m1_m1, n_lt, n_le, n_eq, lt_t, lt_f, le_t, le_f, eq_t, eq_f, n_cl, inb_ok, n_add, pk_mul, pk_sub, n_rem, n_div, n_dec, n_mx, n_mn, eq_m1, eq_m2, ss_same, ss_ne, ss_r, ss_l, sr_f, sr_l, sr_same, sr_ne, sw_f, sw_l, sw_at, sw_ne, pk_us, pk_un, bI_t, bI_f, not_true_eq_false, not_false_eq_true, eq_self, and_true, true_and, and_false, false_and, or_true, true_or, or_false, false_or, decide_true, decide_false, Bool.false_eq_true, Bool.true_eq_false, ↓cal_w (d_hasCopy h j _), d_hasCopy h j _, isN_t hc (show nc N ≤ 2 ^ 31 by omega), j2, j3, st_tst, d, e1, e2]
          obtain ⟨n, rfl⟩ : ∃ k, n = k + 1 := ⟨n - 1, by omega⟩
          rw [f_X0_cellOf_17]
          by_cases d2 : 10 ≤ s + 1
          · simp (disch := omega) only [↓bnd_i, ↓cal_s, ↓cal_n, ↓cal2_s, ↓cal2_n, cal_s, cal2_s, ↓reduceIte, fa_lit, m1_lit, m2_lit, m1_lt, m2_lt, m1_eq, m2_eq, m1_le, m2_le, le_m1, le_m2, lt_m1, lt_m2, m12, m21, m1_m1, n_lt, n_le, n_eq, lt_t, lt_f, le_t, le_f, eq_t, eq_f, n_cl, inb_ok, n_add, pk_mul, pk_sub, n_rem, n_div, n_dec, n_mx, n_mn, eq_m1, eq_m2, ss_same, ss_ne, ss_r, ss_l, sr_f, sr_l, sr_same, sr_ne, sw_f, sw_l, sw_at, sw_ne, pk_us, pk_un, bI_t, bI_f, not_true_eq_false, not_false_eq_true, eq_self, and_true, true_and, and_false, false_and, or_true, true_or, or_false, false_or, decide_true, decide_false, Bool.false_eq_true, Bool.true_eq_false, cl]
          · simp (disch := omega) only [↓bnd_i, ↓cal_s, ↓cal_n, ↓cal2_s, ↓cal2_n, cal_s, cal2_s, ↓reduceIte, fa_lit, m1_lit, m2_lit, m1_lt, m2_lt, m1_eq, m2_eq, m1_le, m2_le, le_m1, le_m2, lt_m1, lt_m2, m12, m21, m1_m1, n_lt, n_le, n_eq, lt_t, lt_f, le_t, le_f, eq_t, eq_f, n_cl, inb_ok, n_add, pk_mul, pk_sub, n_rem, n_div, n_dec, n_mx, n_mn, eq_m1, eq_m2, ss_same, ss_ne, ss_r, ss_l, sr_f, sr_l, sr_same, sr_ne, sw_f, sw_l, sw_at, sw_ne, pk_us, pk_un, bI_t, bI_f, not_true_eq_false, not_false_eq_true, eq_self, and_true, true_and, and_false, false_and, or_true, true_or, or_false, false_or, decide_true, decide_false, Bool.false_eq_true, Bool.true_eq_false, ↓cal_w (d_hasCopyM h j), d_hasCopyM h j, cl]
        · have ih' := ih f u (s + 1) (by omega) (by omega) (by omega) (by omega)
          simp (disch := omega) only [↓bnd_i, ↓cal_s, ↓cal_n, ↓cal2_s, ↓cal2_n, cal_s, cal2_s, ↓reduceIte, fa_lit, m1_lit, m2_lit, m1_lt, m2_lt, m1_eq, m2_eq, m1_le, m2_le, le_m1, le_m2, lt_m1, lt_m2, m12, m21, m1_m1, n_lt, n_le, n_eq, lt_t, lt_f, le_t, le_f, eq_t, eq_f, n_cl, inb_ok, n_add, pk_mul, pk_sub, n_rem, n_div, n_dec, n_mx, n_mn, eq_m1, eq_m2, ss_same, ss_ne, ss_r, ss_l, sr_f, sr_l, sr_same, sr_ne, sw_f, sw_l, sw_at, sw_ne, pk_us, pk_un, bI_t, bI_f, not_true_eq_false, not_false_eq_true, eq_self, and_true, true_and, and_false, false_and, or_true, true_or, or_false, false_or, decide_true, decide_false, Bool.false_eq_true, Bool.true_eq_false, ↓cal_w (d_hasCopy h j _), d_hasCopy h j _, isN_t hc (show nc N ≤ 2 ^ 31 by omega), j2, j3, st_tst, d, e1, e2]
          exact ih'
      · simp (disch := omega) only [↓bnd_i, ↓cal_s, ↓cal_n, ↓cal2_s, ↓cal2_n, cal_s, cal2_s, ↓reduceIte, fa_lit, m1_lit, m2_lit, m1_lt, m2_lt, m1_eq, m2_eq, m1_le, m2_le, le_m1, le_m2, lt_m1, lt_m2, m12, m21, m1_m1, n_lt, n_le, n_eq, lt_t, lt_f, le_t, le_f, eq_t, eq_f, n_cl, inb_ok, n_add, pk_mul, pk_sub, n_rem, n_div, n_dec, n_mx, n_mn, eq_m1, eq_m2, ss_same, ss_ne, ss_r, ss_l, sr_f, sr_l, sr_same, sr_ne, sw_f, sw_l, sw_at, sw_ne, pk_us, pk_un, bI_t, bI_f, not_true_eq_false, not_false_eq_true, eq_self, and_true, true_and, and_false, false_and, or_true, true_or, or_false, false_or, decide_true, decide_false, Bool.false_eq_true, Bool.true_eq_false, ↓cal_w (d_hasCopy h j _), d_hasCopy h j _, isN_t hc (show nc N ≤ 2 ^ 31 by omega), j2, j3, st_tst, d, cl]
  have e := key F 10 c 0 hc (by omega) (by omega) (by omega)
  unfold f_X0_cellOf
  simp (disch := omega) only [↓bnd_i, ↓cal_s, ↓cal_n, ↓cal2_s, ↓cal2_n, cal_s, cal2_s, ↓reduceIte, fa_lit, m1_lit, m2_lit, m1_lt, m2_lt, m1_eq, m2_eq, m1_le, m2_le, le_m1, le_m2, lt_m1, lt_m2, m12, m21, m1_m1, n_lt, n_le, n_eq, lt_t, lt_f, le_t, le_f, eq_t, eq_f, n_cl, inb_ok, n_add, pk_mul, pk_sub, n_rem, n_div, n_dec, n_mx, n_mn, eq_m1, eq_m2, ss_same, ss_ne, ss_r, ss_l, sr_f, sr_l, sr_same, sr_ne, sw_f, sw_l, sw_at, sw_ne, pk_us, pk_un, bI_t, bI_f, not_true_eq_false, not_false_eq_true, eq_self, and_true, true_and, and_false, false_and, or_true, true_or, or_false, false_or, decide_true, decide_false, Bool.false_eq_true, Bool.true_eq_false]
  exact e
theorem d_cellOfN {F : Nat} (hF : 20 < F) {σ : St} {N : Nat → Int32} (h : NN N) (j : JJ σ N) {x y : Int32} (hx : isN x (nc N) = false ∨ isN y 8 = false) : f_X0_cellOf F σ x y = some m1 := by
  unfold f_X0_cellOf
  rcases n_ex y with hy | ⟨g, hg, rfl⟩
  · simp (disch := omega) only [↓bnd_i, ↓cal_s, ↓cal_n, ↓cal2_s, ↓cal2_n, cal_s, cal2_s, ↓reduceIte, fa_lit, m1_lit, m2_lit, m1_lt, m2_lt, m1_eq, m2_eq, m1_le, m2_le, le_m1, le_m2, lt_m1, lt_m2, m12, m21, m1_m1, n_lt, n_le, n_eq, lt_t, lt_f, le_t, le_f, eq_t, eq_f, n_cl, inb_ok, n_add, pk_mul, pk_sub, n_rem, n_div, n_dec, n_mx, n_mn, eq_m1, eq_m2, ss_same, ss_ne, ss_r, ss_l, sr_f, sr_l, sr_same, sr_ne, sw_f, sw_l, sw_at, sw_ne, pk_us, pk_un, bI_t, bI_f, not_true_eq_false, not_false_eq_true, eq_self, and_true, true_and, and_false, false_and, or_true, true_or, or_false, false_or, decide_true, decide_false, Bool.false_eq_true, Bool.true_eq_false, eq_true (show y < nI 0 from hy)]
  · rw [isN_n hg] at hx
    by_cases c : g < 8
    · have hx' : isN x (nc N) = false := by
        rcases hx with hx | hx
        · exact hx
        · exact absurd c (of_decide_eq_false hx)
      obtain ⟨n, rfl⟩ : ∃ k, F = k + 1 := ⟨F - 1, by omega⟩
      rw [f_X0_cellOf_17]
      simp (disch := omega) only [↓bnd_i, ↓cal_s, ↓cal_n, ↓cal2_s, ↓cal2_n, cal_s, cal2_s, ↓reduceIte, fa_lit, m1_lit, m2_lit, m1_lt, m2_lt, m1_eq, m2_eq, m1_le, m2_le, le_m1, le_m2, lt_m1, lt_m2, m12, m21, m1_m1, n_lt, n_le, n_eq, lt_t, lt_f, le_t, le_f, eq_t, eq_f, n_cl, inb_ok, n_add, pk_mul, pk_sub, n_rem, n_div, n_dec, n_mx, n_mn, eq_m1, eq_m2, ss_same, ss_ne, ss_r, ss_l, sr_f, sr_l, sr_same, sr_ne, sw_f, sw_l, sw_at, sw_ne, pk_us, pk_un, bI_t, bI_f, not_true_eq_false, not_false_eq_true, eq_self, and_true, true_and, and_false, false_and, or_true, true_or, or_false, false_or, decide_true, decide_false, Bool.false_eq_true, Bool.true_eq_false, ↓cal_w (d_hasCopy h j _), d_hasCopy h j _, hx']
    · simp (disch := omega) only [↓bnd_i, ↓cal_s, ↓cal_n, ↓cal2_s, ↓cal2_n, cal_s, cal2_s, ↓reduceIte, fa_lit, m1_lit, m2_lit, m1_lt, m2_lt, m1_eq, m2_eq, m1_le, m2_le, le_m1, le_m2, lt_m1, lt_m2, m12, m21, m1_m1, n_lt, n_le, n_eq, lt_t, lt_f, le_t, le_f, eq_t, eq_f, n_cl, inb_ok, n_add, pk_mul, pk_sub, n_rem, n_div, n_dec, n_mx, n_mn, eq_m1, eq_m2, ss_same, ss_ne, ss_r, ss_l, sr_f, sr_l, sr_same, sr_ne, sw_f, sw_l, sw_at, sw_ne, pk_us, pk_un, bI_t, bI_f, not_true_eq_false, not_false_eq_true, eq_self, and_true, true_and, and_false, false_and, or_true, true_or, or_false, false_or, decide_true, decide_false, Bool.false_eq_true, Bool.true_eq_false]
theorem t_ofCopy {F : Nat} {τ : St} {c k : Nat} (hc : c < 10) (hk : k < 4) : f_X8_ofCopy F τ (nI c) (nI k) = some (nw τ (60 + 4 * c + k)) := by
  unfold f_X8_ofCopy
  simp (disch := omega) only [↓bnd_i, ↓cal_s, ↓cal_n, ↓cal2_s, ↓cal2_n, cal_s, cal2_s, ↓reduceIte, fa_lit, m1_lit, m2_lit, m1_lt, m2_lt, m1_eq, m2_eq, m1_le, m2_le, le_m1, le_m2, lt_m1, lt_m2, m12, m21, m1_m1, n_lt, n_le, n_eq, lt_t, lt_f, le_t, le_f, eq_t, eq_f, n_cl, inb_ok, n_add, pk_mul, pk_sub, n_rem, n_div, n_dec, n_mx, n_mn, eq_m1, eq_m2, ss_same, ss_ne, ss_r, ss_l, sr_f, sr_l, sr_same, sr_ne, sw_f, sw_l, sw_at, sw_ne, pk_us, pk_un, bI_t, bI_f, not_true_eq_false, not_false_eq_true, eq_self, and_true, true_and, and_false, false_and, or_true, true_or, or_false, false_or, decide_true, decide_false, Bool.false_eq_true, Bool.true_eq_false]
theorem t_takenAt {F : Nat} (hF : 20 < F) {τ : St} (h : NN (nw τ)) {c g : Nat} (hc : c < nc (nw τ)) (hg : g < 8) : f_X8_takenAt F τ (nI c) (nI g) = some (ta (tc (nw τ) c g) g) := by
  obtain ⟨b1, b2, b3, b4, b5, b6, b7, b8⟩ := NNb h
  have key : ∀ n f c, c < nc (nw τ) → c < f → c + 1 < n → f_X8_takenAt_2 F n τ (nI g) (nI c) = some (ta (tcF (nw τ) f c g) g) := by
    intro n
    induction n with
    | zero => intro f c _ _ h; omega
    | succ n ih =>
      intro f c hc hf hn
      obtain ⟨f, rfl⟩ : ∃ k, f = k + 1 := ⟨f - 1, by omega⟩
      have e0 : τ.2.1 19 (100 + 4 * (8 * c + g)) = bI (tk (nw τ) c g) := ((h.2.2.2.2 c hc).2.2.2 g hg).1
      rw [f_X8_takenAt_2, tcF_s]
      cases d : tk (nw τ) c g
      · rw [d] at e0
        rcases up_in h hc with ⟨e1, e2⟩ | ⟨u, hu, e1, e2⟩
        · simp (disch := omega) only [↓bnd_i, ↓cal_s, ↓cal_n, ↓cal2_s, ↓cal2_n, cal_s, cal2_s, ↓reduceIte, fa_lit, m1_lit, m2_lit, m1_lt, m2_lt, m1_eq, m2_eq, m1_le, m2_le, le_m1, le_m2, lt_m1, lt_m2, m12, m21, m1_m1, n_lt, n_le, n_eq, lt_t, lt_f, le_t, le_f, eq_t, eq_f, n_cl, inb_ok, n_add, pk_mul, pk_sub, n_rem, n_div, n_dec, n_mx, n_mn, eq_m1, eq_m2, ss_same, ss_ne, ss_r, ss_l, sr_f, sr_l, sr_same, sr_ne, sw_f, sw_l, sw_at, sw_ne, pk_us, pk_un, bI_t, bI_f, not_true_eq_false, not_false_eq_true, eq_self, and_true, true_and, and_false, false_and, or_true, true_or, or_false, false_or, decide_true, decide_false, Bool.false_eq_true, Bool.true_eq_false, ↓cal_w (t_ofCopy (τ := τ) (show c < 10 by omega) (show 1 < 4 by omega)), t_ofCopy (τ := τ) (show c < 10 by omega) (show 1 < 4 by omega), e0, e1, e2]
          obtain ⟨n, rfl⟩ : ∃ k, n = k + 1 := ⟨n - 1, by omega⟩
          rw [f_X8_takenAt_2]
          simp (disch := omega) only [↓bnd_i, ↓cal_s, ↓cal_n, ↓cal2_s, ↓cal2_n, cal_s, cal2_s, ↓reduceIte, fa_lit, m1_lit, m2_lit, m1_lt, m2_lt, m1_eq, m2_eq, m1_le, m2_le, le_m1, le_m2, lt_m1, lt_m2, m12, m21, m1_m1, n_lt, n_le, n_eq, lt_t, lt_f, le_t, le_f, eq_t, eq_f, n_cl, inb_ok, n_add, pk_mul, pk_sub, n_rem, n_div, n_dec, n_mx, n_mn, eq_m1, eq_m2, ss_same, ss_ne, ss_r, ss_l, sr_f, sr_l, sr_same, sr_ne, sw_f, sw_l, sw_at, sw_ne, pk_us, pk_un, bI_t, bI_f, not_true_eq_false, not_false_eq_true, eq_self, and_true, true_and, and_false, false_and, or_true, true_or, or_false, false_or, decide_true, decide_false, Bool.false_eq_true, Bool.true_eq_false, ta]
        · have ih' := ih f u (by omega) (by omega) (by omega)
          simp (disch := omega) only [↓bnd_i, ↓cal_s, ↓cal_n, ↓cal2_s, ↓cal2_n, cal_s, cal2_s, ↓reduceIte, fa_lit, m1_lit, m2_lit, m1_lt, m2_lt, m1_eq, m2_eq, m1_le, m2_le, le_m1, le_m2, lt_m1, lt_m2, m12, m21, m1_m1, n_lt, n_le, n_eq, lt_t, lt_f, le_t, le_f, eq_t, eq_f, n_cl, inb_ok, n_add, pk_mul, pk_sub, n_rem, n_div, n_dec, n_mx, n_mn, eq_m1, eq_m2, ss_same, ss_ne, ss_r, ss_l, sr_f, sr_l, sr_same, sr_ne, sw_f, sw_l, sw_at, sw_ne, pk_us, pk_un, bI_t, bI_f, not_true_eq_false, not_false_eq_true, eq_self, and_true, true_and, and_false, false_and, or_true, true_or, or_false, false_or, decide_true, decide_false, Bool.false_eq_true, Bool.true_eq_false, ↓cal_w (t_ofCopy (τ := τ) (show c < 10 by omega) (show 1 < 4 by omega)), t_ofCopy (τ := τ) (show c < 10 by omega) (show 1 < 4 by omega), e0, e1, e2]
          exact ih'
      · rw [d] at e0
        simp (disch := omega) only [↓bnd_i, ↓cal_s, ↓cal_n, ↓cal2_s, ↓cal2_n, cal_s, cal2_s, ↓reduceIte, fa_lit, m1_lit, m2_lit, m1_lt, m2_lt, m1_eq, m2_eq, m1_le, m2_le, le_m1, le_m2, lt_m1, lt_m2, m12, m21, m1_m1, n_lt, n_le, n_eq, lt_t, lt_f, le_t, le_f, eq_t, eq_f, n_cl, inb_ok, n_add, pk_mul, pk_sub, n_rem, n_div, n_dec, n_mx, n_mn, eq_m1, eq_m2, ss_same, ss_ne, ss_r, ss_l, sr_f, sr_l, sr_same, sr_ne, sw_f, sw_l, sw_at, sw_ne, pk_us, pk_un, bI_t, bI_f, not_true_eq_false, not_false_eq_true, eq_self, and_true, true_and, and_false, false_and, or_true, true_or, or_false, false_or, decide_true, decide_false, Bool.false_eq_true, Bool.true_eq_false, e0, ta]
  exact key F 10 c hc (by omega) (by omega)
/-- whether none of a chain is open or dropped -/
def okF (N : Nat → Int32) : Nat → Nat → Bool
  | 0, _ => true
  | f + 1, c => if co N c || cd N c then false else match up N c with
    | none => true
    | some u => okF N f u
theorem okF_s {N : Nat → Int32} {f c : Nat} : okF N (f + 1) c = if co N c || cd N c then false else match up N c with
    | none => true
    | some u => okF N f u := rfl
/-- whether a copy has all pages -/
def alP (N : Nat → Int32) (c : Nat) : Bool := decide (∀ g, g < pg N → (tc N c g).isSome = true)
def ft (N : Nat → Int32) (c : Nat) : Bool := alP N c && okF N 10 c
theorem d_allPages {F : Nat} (hF : 20 < F) {σ : St} {N : Nat → Int32} (h : NN N) (j : JJ σ N) {c : Nat} (hc : c < nc N) : f_X0_allPages F σ (nI c) = some (nI (bs (fun g => (tc N c g).isSome) 8)) := by
  obtain ⟨b1, b2, b3, b4, b5, b6, b7, b8⟩ := NNb h
  have key : ∀ n f c s (a : Nat → Bool), c < nc N → c < f → c + 1 < n → c + s < 10 → f_X0_allPages_7 F n σ (nI (bs a 8)) (nI c) (nI s) = some (nI (bs (fun g => a g || (tcF N f c g).isSome) 8)) := by
    intro n
    induction n with
    | zero => intro f c s a _ _ h; omega
    | succ n ih =>
      intro f c s a hc hf hn hs
      obtain ⟨f, rfl⟩ : ∃ k, f = k + 1 := ⟨f - 1, by omega⟩
      obtain ⟨j1, j2, j3⟩ := j_cop j hc
      rw [f_X0_allPages_7]
      rcases up_in h hc with ⟨e1, e2⟩ | ⟨u, hu, e1, e2⟩
      · have hb : bs (fun i => a i || tk N c i) 8 = bs (fun g => a g || (tcF N (f + 1) c g).isSome) 8 := bs_cong (fun g hg => by
          rw [tcF_s, e2]
          cases tk N c g <;> rfl)
        simp (disch := omega) only [↓bnd_i, ↓cal_s, ↓cal_n, ↓cal2_s, ↓cal2_n, cal_s, cal2_s, ↓reduceIte, fa_lit, m1_lit, m2_lit, m1_lt, m2_lt, m1_eq, m2_eq, m1_le, m2_le, le_m1, le_m2, lt_m1, lt_m2, m12, m21, m1_m1, n_lt, n_le, n_eq, lt_t, lt_f, le_t, le_f, eq_t, eq_f, n_cl, inb_ok, n_add, pk_mul, pk_sub, n_rem, n_div, n_dec, n_mx, n_mn, eq_m1, eq_m2, ss_same, ss_ne, ss_r, ss_l, sr_f, sr_l, sr_same, sr_ne, sw_f, sw_l, sw_at, sw_ne, pk_us, pk_un, bI_t, bI_f, not_true_eq_false, not_false_eq_true, eq_self, and_true, true_and, and_false, false_and, or_true, true_or, or_false, false_or, decide_true, decide_false, Bool.false_eq_true, Bool.true_eq_false, ↓cal_w (d_hasCopy h j _), d_hasCopy h j _, isN_t hc (show nc N ≤ 2 ^ 31 by omega), j2, j3, st_or, e1]
        rw [hb]
        obtain ⟨n, rfl⟩ : ∃ k, n = k + 1 := ⟨n - 1, by omega⟩
        rw [f_X0_allPages_7]
        by_cases d2 : 10 ≤ s + 1
        · simp (disch := omega) only [↓bnd_i, ↓cal_s, ↓cal_n, ↓cal2_s, ↓cal2_n, cal_s, cal2_s, ↓reduceIte, fa_lit, m1_lit, m2_lit, m1_lt, m2_lt, m1_eq, m2_eq, m1_le, m2_le, le_m1, le_m2, lt_m1, lt_m2, m12, m21, m1_m1, n_lt, n_le, n_eq, lt_t, lt_f, le_t, le_f, eq_t, eq_f, n_cl, inb_ok, n_add, pk_mul, pk_sub, n_rem, n_div, n_dec, n_mx, n_mn, eq_m1, eq_m2, ss_same, ss_ne, ss_r, ss_l, sr_f, sr_l, sr_same, sr_ne, sw_f, sw_l, sw_at, sw_ne, pk_us, pk_un, bI_t, bI_f, not_true_eq_false, not_false_eq_true, eq_self, and_true, true_and, and_false, false_and, or_true, true_or, or_false, false_or, decide_true, decide_false, Bool.false_eq_true, Bool.true_eq_false]
        · simp (disch := omega) only [↓bnd_i, ↓cal_s, ↓cal_n, ↓cal2_s, ↓cal2_n, cal_s, cal2_s, ↓reduceIte, fa_lit, m1_lit, m2_lit, m1_lt, m2_lt, m1_eq, m2_eq, m1_le, m2_le, le_m1, le_m2, lt_m1, lt_m2, m12, m21, m1_m1, n_lt, n_le, n_eq, lt_t, lt_f, le_t, le_f, eq_t, eq_f, n_cl, inb_ok, n_add, pk_mul, pk_sub, n_rem, n_div, n_dec, n_mx, n_mn, eq_m1, eq_m2, ss_same, ss_ne, ss_r, ss_l, sr_f, sr_l, sr_same, sr_ne, sw_f, sw_l, sw_at, sw_ne, pk_us, pk_un, bI_t, bI_f, not_true_eq_false, not_false_eq_true, eq_self, and_true, true_and, and_false, false_and, or_true, true_or, or_false, false_or, decide_true, decide_false, Bool.false_eq_true, Bool.true_eq_false, ↓cal_w (d_hasCopyM h j), d_hasCopyM h j]
      · have hb : bs (fun g => (a g || tk N c g) || (tcF N f u g).isSome) 8 = bs (fun g => a g || (tcF N (f + 1) c g).isSome) 8 := bs_cong (fun g hg => by
          rw [tcF_s, e2]
          cases tk N c g <;> simp)
        have ih' := ih f u (s + 1) (fun i => a i || tk N c i) (by omega) (by omega) (by omega) (by omega)
        rw [hb] at ih'
        simp (disch := omega) only [↓bnd_i, ↓cal_s, ↓cal_n, ↓cal2_s, ↓cal2_n, cal_s, cal2_s, ↓reduceIte, fa_lit, m1_lit, m2_lit, m1_lt, m2_lt, m1_eq, m2_eq, m1_le, m2_le, le_m1, le_m2, lt_m1, lt_m2, m12, m21, m1_m1, n_lt, n_le, n_eq, lt_t, lt_f, le_t, le_f, eq_t, eq_f, n_cl, inb_ok, n_add, pk_mul, pk_sub, n_rem, n_div, n_dec, n_mx, n_mn, eq_m1, eq_m2, ss_same, ss_ne, ss_r, ss_l, sr_f, sr_l, sr_same, sr_ne, sw_f, sw_l, sw_at, sw_ne, pk_us, pk_un, bI_t, bI_f, not_true_eq_false, not_false_eq_true, eq_self, and_true, true_and, and_false, false_and, or_true, true_or, or_false, false_or, decide_true, decide_false, Bool.false_eq_true, Bool.true_eq_false, ↓cal_w (d_hasCopy h j _), d_hasCopy h j _, isN_t hc (show nc N ≤ 2 ^ 31 by omega), j2, j3, st_or, e1]
        exact ih'
  have e := key F 10 c 0 (fun _ => false) hc (by omega) (by omega) (by omega)
  have e0 : nI (bs (fun _ => false) 8) = nI 0 := by decide
  rw [e0] at e
  simp only [Bool.false_or] at e
  exact e
theorem d_isFit {F : Nat} (hF : 20 < F) {σ : St} {N : Nat → Int32} (h : NN N) (j : JJ σ N) {c : Nat} (hc : c < nc N) : f_X0_isFit F σ (nI c) (nI (pg N)) = some (bI (ft N c)) := by
  obtain ⟨b1, b2, b3, b4, b5, b6, b7, b8⟩ := NNb h
  have key : ∀ n f c s, c < nc N → c < f → c + 1 < n → c + s < 10 → f_X0_isFit_28 F n σ (nI c) (nI s) = some (bI (okF N f c)) := by
    intro n
    induction n with
    | zero => intro f c s _ _ h; omega
    | succ n ih =>
      intro f c s hc hf hn hs
      obtain ⟨f, rfl⟩ : ∃ k, f = k + 1 := ⟨f - 1, by omega⟩
      obtain ⟨j1, j2, j3⟩ := j_cop j hc
      have o1 : σ.1 9 = nI (bs (co N) (nc N)) := j.2.2.1
      have o2 : σ.1 10 = nI (bs (cd N) (nc N)) := j.2.2.2.1
      rw [f_X0_isFit_28, okF_s]
      cases d : co N c || cd N c
      · rcases up_in h hc with ⟨e1, e2⟩ | ⟨u, hu, e1, e2⟩
        · simp (disch := omega) only [↓bnd_i, ↓cal_s, ↓cal_n, ↓cal2_s, ↓cal2_n, cal_s, cal2_s, ↓reduceIte, fa_lit, m1_lit, m2_lit, m1_lt, m2_lt, m1_eq, m2_eq, m1_le, m2_le, le_m1, le_m2, lt_m1, lt_m2, m12, m21, m1_m1, n_lt, n_le, n_eq, lt_t, lt_f, le_t, le_f, eq_t, eq_f, n_cl, inb_ok, n_add, pk_mul, pk_sub, n_rem, n_div, n_dec, n_mx, n_mn, eq_m1, eq_m2, ss_same, ss_ne, ss_r, ss_l, sr_f, sr_l, sr_same, sr_ne, sw_f, sw_l, sw_at, sw_ne, pk_us, pk_un, bI_t, bI_f, not_true_eq_false, not_false_eq_true, eq_self, and_true, true_and, and_false, false_and, or_true, true_or, or_false, false_or, decide_true, decide_false, Bool.false_eq_true, Bool.true_eq_false, ↓cal_w (d_hasCopy h j _), d_hasCopy h j _, isN_t hc (show nc N ≤ 2 ^ 31 by omega), o1, o2, j2, st_or, st_tst, d, e1, e2]
          obtain ⟨n, rfl⟩ : ∃ k, n = k + 1 := ⟨n - 1, by omega⟩
          rw [f_X0_isFit_28]
          by_cases d2 : 10 ≤ s + 1
          · simp (disch := omega) only [↓bnd_i, ↓cal_s, ↓cal_n, ↓cal2_s, ↓cal2_n, cal_s, cal2_s, ↓reduceIte, fa_lit, m1_lit, m2_lit, m1_lt, m2_lt, m1_eq, m2_eq, m1_le, m2_le, le_m1, le_m2, lt_m1, lt_m2, m12, m21, m1_m1, n_lt, n_le, n_eq, lt_t, lt_f, le_t, le_f, eq_t, eq_f, n_cl, inb_ok, n_add, pk_mul, pk_sub, n_rem, n_div, n_dec, n_mx, n_mn, eq_m1, eq_m2, ss_same, ss_ne, ss_r, ss_l, sr_f, sr_l, sr_same, sr_ne, sw_f, sw_l, sw_at, sw_ne, pk_us, pk_un, bI_t, bI_f, not_true_eq_false, not_false_eq_true, eq_self, and_true, true_and, and_false, false_and, or_true, true_or, or_false, false_or, decide_true, decide_false, Bool.false_eq_true, Bool.true_eq_false]
          · simp (disch := omega) only [↓bnd_i, ↓cal_s, ↓cal_n, ↓cal2_s, ↓cal2_n, cal_s, cal2_s, ↓reduceIte, fa_lit, m1_lit, m2_lit, m1_lt, m2_lt, m1_eq, m2_eq, m1_le, m2_le, le_m1, le_m2, lt_m1, lt_m2, m12, m21, m1_m1, n_lt, n_le, n_eq, lt_t, lt_f, le_t, le_f, eq_t, eq_f, n_cl, inb_ok, n_add, pk_mul, pk_sub, n_rem, n_div, n_dec, n_mx, n_mn, eq_m1, eq_m2, ss_same, ss_ne, ss_r, ss_l, sr_f, sr_l, sr_same, sr_ne, sw_f, sw_l, sw_at, sw_ne, pk_us, pk_un, bI_t, bI_f, not_true_eq_false, not_false_eq_true, eq_self, and_true, true_and, and_false, false_and, or_true, true_or, or_false, false_or, decide_true, decide_false, Bool.false_eq_true, Bool.true_eq_false, ↓cal_w (d_hasCopyM h j), d_hasCopyM h j]
        · have ih' := ih f u (s + 1) (by omega) (by omega) (by omega) (by omega)
          simp (disch := omega) only [↓bnd_i, ↓cal_s, ↓cal_n, ↓cal2_s, ↓cal2_n, cal_s, cal2_s, ↓reduceIte, fa_lit, m1_lit, m2_lit, m1_lt, m2_lt, m1_eq, m2_eq, m1_le, m2_le, le_m1, le_m2, lt_m1, lt_m2, m12, m21, m1_m1, n_lt, n_le, n_eq, lt_t, lt_f, le_t, le_f, eq_t, eq_f, n_cl, inb_ok, n_add, pk_mul, pk_sub, n_rem, n_div, n_dec, n_mx, n_mn, eq_m1, eq_m2, ss_same, ss_ne, ss_r, ss_l, sr_f, sr_l, sr_same, sr_ne, sw_f, sw_l, sw_at, sw_ne, pk_us, pk_un, bI_t, bI_f, not_true_eq_false, not_false_eq_true, eq_self, and_true, true_and, and_false, false_and, or_true, true_or, or_false, false_or, decide_true, decide_false, Bool.false_eq_true, Bool.true_eq_false, ↓cal_w (d_hasCopy h j _), d_hasCopy h j _, isN_t hc (show nc N ≤ 2 ^ 31 by omega), o1, o2, j2, st_or, st_tst, d, e1, e2]
          exact ih'
      · simp (disch := omega) only [↓bnd_i, ↓cal_s, ↓cal_n, ↓cal2_s, ↓cal2_n, cal_s, cal2_s, ↓reduceIte, fa_lit, m1_lit, m2_lit, m1_lt, m2_lt, m1_eq, m2_eq, m1_le, m2_le, le_m1, le_m2, lt_m1, lt_m2, m12, m21, m1_m1, n_lt, n_le, n_eq, lt_t, lt_f, le_t, le_f, eq_t, eq_f, n_cl, inb_ok, n_add, pk_mul, pk_sub, n_rem, n_div, n_dec, n_mx, n_mn, eq_m1, eq_m2, ss_same, ss_ne, ss_r, ss_l, sr_f, sr_l, sr_same, sr_ne, sw_f, sw_l, sw_at, sw_ne, pk_us, pk_un, bI_t, bI_f, not_true_eq_false, not_false_eq_true, eq_self, and_true, true_and, and_false, false_and, or_true, true_or, or_false, false_or, decide_true, decide_false, Bool.false_eq_true, Bool.true_eq_false, ↓cal_w (d_hasCopy h j _), d_hasCopy h j _, isN_t hc (show nc N ≤ 2 ^ 31 by omega), o1, o2, j2, st_or, st_tst, d]
  have e := key F 10 c 0 hc (by omega) (by omega) (by omega)
  have hal : (nI (bs (fun g => (tc N c g).isSome) 8) = nI (bs (fun i => decide (i < pg N)) 8)) = (alP N c = true) := by
    rw [st_eq (by omega)]
    unfold alP
    rw [decide_eq_true_eq]
    refine propext ⟨fun q g hg => by rw [q g (by omega)]; exact decide_eq_true hg, fun q g hg => ?_⟩
    by_cases d : g < pg N
    · rw [q g d, decide_eq_true d]
    · rw [decide_eq_false d]
      cases d2 : tc N c g with
      | none => rfl
      | some a => exact absurd (tc_in h hc hg d2).2.2.2.1 d
  unfold f_X0_isFit ft
  cases d : alP N c
  · simp (disch := omega) only [↓bnd_i, ↓cal_s, ↓cal_n, ↓cal2_s, ↓cal2_n, cal_s, cal2_s, ↓reduceIte, fa_lit, m1_lit, m2_lit, m1_lt, m2_lt, m1_eq, m2_eq, m1_le, m2_le, le_m1, le_m2, lt_m1, lt_m2, m12, m21, m1_m1, n_lt, n_le, n_eq, lt_t, lt_f, le_t, le_f, eq_t, eq_f, n_cl, inb_ok, n_add, pk_mul, pk_sub, n_rem, n_div, n_dec, n_mx, n_mn, eq_m1, eq_m2, ss_same, ss_ne, ss_r, ss_l, sr_f, sr_l, sr_same, sr_ne, sw_f, sw_l, sw_at, sw_ne, pk_us, pk_un, bI_t, bI_f, not_true_eq_false, not_false_eq_true, eq_self, and_true, true_and, and_false, false_and, or_true, true_or, or_false, false_or, decide_true, decide_false, Bool.false_eq_true, Bool.true_eq_false, ↓cal_w (d_hasCopy h j _), d_hasCopy h j _, ↓cal_w (d_allPages hF h j hc), d_allPages hF h j hc, isN_t hc (show nc N ≤ 2 ^ 31 by omega), st_full (pg N) b2, hal, d, Bool.false_and]
  · simp (disch := omega) only [↓bnd_i, ↓cal_s, ↓cal_n, ↓cal2_s, ↓cal2_n, cal_s, cal2_s, ↓reduceIte, fa_lit, m1_lit, m2_lit, m1_lt, m2_lt, m1_eq, m2_eq, m1_le, m2_le, le_m1, le_m2, lt_m1, lt_m2, m12, m21, m1_m1, n_lt, n_le, n_eq, lt_t, lt_f, le_t, le_f, eq_t, eq_f, n_cl, inb_ok, n_add, pk_mul, pk_sub, n_rem, n_div, n_dec, n_mx, n_mn, eq_m1, eq_m2, ss_same, ss_ne, ss_r, ss_l, sr_f, sr_l, sr_same, sr_ne, sw_f, sw_l, sw_at, sw_ne, pk_us, pk_un, bI_t, bI_f, not_true_eq_false, not_false_eq_true, eq_self, and_true, true_and, and_false, false_and, or_true, true_or, or_false, false_or, decide_true, decide_false, Bool.false_eq_true, Bool.true_eq_false, ↓cal_w (d_hasCopy h j _), d_hasCopy h j _, ↓cal_w (d_allPages hF h j hc), d_allPages hF h j hc, isN_t hc (show nc N ≤ 2 ^ 31 by omega), st_full (pg N) b2, hal, d, Bool.true_and]
    exact e
theorem d_isFitN {F : Nat} {σ : St} {N : Nat → Int32} (h : NN N) (j : JJ σ N) {x y : Int32} (c : isN x (nc N) = false) : f_X0_isFit F σ x y = some (nI 0) := by
  unfold f_X0_isFit
  simp (disch := omega) only [↓bnd_i, ↓cal_s, ↓cal_n, ↓cal2_s, ↓cal2_n, cal_s, cal2_s, ↓reduceIte, fa_lit, m1_lit, m2_lit, m1_lt, m2_lt, m1_eq, m2_eq, m1_le, m2_le, le_m1, le_m2, lt_m1, lt_m2, m12, m21, m1_m1, n_lt, n_le, n_eq, lt_t, lt_f, le_t, le_f, eq_t, eq_f, n_cl, inb_ok, n_add, pk_mul, pk_sub, n_rem, n_div, n_dec, n_mx, n_mn, eq_m1, eq_m2, ss_same, ss_ne, ss_r, ss_l, sr_f, sr_l, sr_same, sr_ne, sw_f, sw_l, sw_at, sw_ne, pk_us, pk_un, bI_t, bI_f, not_true_eq_false, not_false_eq_true, eq_self, and_true, true_and, and_false, false_and, or_true, true_or, or_false, false_or, decide_true, decide_false, Bool.false_eq_true, Bool.true_eq_false, ↓cal_w (d_hasCopy h j _), d_hasCopy h j _, c]
theorem t_isFit {F : Nat} (hF : 20 < F) {τ : St} (h : NN (nw τ)) {c : Nat} (hc : c < nc (nw τ)) : f_X8_isFit F τ (nI c) = some (bI (ft (nw τ) c)) := by
  obtain ⟨b1, b2, b3, b4, b5, b6, b7, b8⟩ := NNb h
  have h0 : τ.2.1 19 0 = nI (pg (nw τ)) := h.1.1.1
  have k1 : ∀ n g, g ≤ pg (nw τ) → pg (nw τ) - g < n → (∀ i, i < g → (tc (nw τ) c i).isSome = true) → f_X8_isFit_40 F n τ (nI c) (nI g) = some (bI (alP (nw τ) c)) := by
    intro n
    induction n with
    | zero => intro g _ h; omega
    | succ n ih =>
      intro g hg hn ha
      rw [f_X8_isFit_40]
      by_cases e : g = pg (nw τ)
      · have : alP (nw τ) c = true := decide_eq_true (fun i hi => ha i (by omega))
        rw [this]
        simp (disch := omega) only [↓bnd_i, ↓cal_s, ↓cal_n, ↓cal2_s, ↓cal2_n, cal_s, cal2_s, ↓reduceIte, fa_lit, m1_lit, m2_lit, m1_lt, m2_lt, m1_eq, m2_eq, m1_le, m2_le, le_m1, le_m2, lt_m1, lt_m2, m12, m21, m1_m1, n_lt, n_le, n_eq, lt_t, lt_f, le_t, le_f, eq_t, eq_f, n_cl, inb_ok, n_add, pk_mul, pk_sub, n_rem, n_div, n_dec, n_mx, n_mn, eq_m1, eq_m2, ss_same, ss_ne, ss_r, ss_l, sr_f, sr_l, sr_same, sr_ne, sw_f, sw_l, sw_at, sw_ne, pk_us, pk_un, bI_t, bI_f, not_true_eq_false, not_false_eq_true, eq_self, and_true, true_and, and_false, false_and, or_true, true_or, or_false, false_or, decide_true, decide_false, Bool.false_eq_true, Bool.true_eq_false, h0]
      · cases d : tc (nw τ) c g with
        | none =>
          have : alP (nw τ) c = false := decide_eq_false (fun q => by have := q g (by omega); rw [d] at this; cases this)
          rw [this]
          simp (disch := omega) only [↓bnd_i, ↓cal_s, ↓cal_n, ↓cal2_s, ↓cal2_n, cal_s, cal2_s, ↓reduceIte, fa_lit, m1_lit, m2_lit, m1_lt, m2_lt, m1_eq, m2_eq, m1_le, m2_le, le_m1, le_m2, lt_m1, lt_m2, m12, m21, m1_m1, n_lt, n_le, n_eq, lt_t, lt_f, le_t, le_f, eq_t, eq_f, n_cl, inb_ok, n_add, pk_mul, pk_sub, n_rem, n_div, n_dec, n_mx, n_mn, eq_m1, eq_m2, ss_same, ss_ne, ss_r, ss_l, sr_f, sr_l, sr_same, sr_ne, sw_f, sw_l, sw_at, sw_ne, pk_us, pk_un, bI_t, bI_f, not_true_eq_false, not_false_eq_true, eq_self, and_true, true_and, and_false, false_and, or_true, true_or, or_false, false_or, decide_true, decide_false, Bool.false_eq_true, Bool.true_eq_false, ↓cal_w (t_takenAt hF h hc (show g < 8 by omega)), t_takenAt hF h hc (show g < 8 by omega), h0, d, ta]
        | some a =>
          have q := tc_in h hc (show g < 8 by omega) d
          have ih' := ih (g + 1) (by omega) (by omega) (fun i hi => by
            by_cases e2 : i = g
            · subst e2; rw [d]; rfl
            · exact ha i (by omega))
          simp (disch := omega) only [↓bnd_i, ↓cal_s, ↓cal_n, ↓cal2_s, ↓cal2_n, cal_s, cal2_s, ↓reduceIte, fa_lit, m1_lit, m2_lit, m1_lt, m2_lt, m1_eq, m2_eq, m1_le, m2_le, le_m1, le_m2, lt_m1, lt_m2, m12, m21, m1_m1, n_lt, n_le, n_eq, lt_t, lt_f, le_t, le_f, eq_t, eq_f, n_cl, inb_ok, n_add, pk_mul, pk_sub, n_rem, n_div, n_dec, n_mx, n_mn, eq_m1, eq_m2, ss_same, ss_ne, ss_r, ss_l, sr_f, sr_l, sr_same, sr_ne, sw_f, sw_l, sw_at, sw_ne, pk_us, pk_un, bI_t, bI_f, not_true_eq_false, not_false_eq_true, eq_self, and_true, true_and, and_false, false_and, or_true, true_or, or_false, false_or, decide_true, decide_false, Bool.false_eq_true, Bool.true_eq_false, ↓cal_w (t_takenAt hF h hc (show g < 8 by omega)), t_takenAt hF h hc (show g < 8 by omega), h0, d, ta]
          exact ih'
  have key : ∀ n f a, a < nc (nw τ) → a < f → a + 1 < n → f_X8_isFit_2 F n τ (nI c) (nI a) = some (bI (alP (nw τ) c && okF (nw τ) f a)) := by
    intro n
    induction n with
    | zero => intro f a _ _ h; omega
    | succ n ih =>
      intro f a ha hf hn
      obtain ⟨f, rfl⟩ : ∃ k, f = k + 1 := ⟨f - 1, by omega⟩
      obtain ⟨-, e2, e3, -⟩ := h.2.2.2.2 a ha
      rw [f_X8_isFit_2, okF_s]
      cases d1 : co (nw τ) a
      · rw [d1] at e2
        cases d2 : cd (nw τ) a
        · rw [d2] at e3
          rcases up_in h ha with ⟨e1, e4⟩ | ⟨u, hu, e1, e4⟩
          · simp (disch := omega) only [↓bnd_i, ↓cal_s, ↓cal_n, ↓cal2_s, ↓cal2_n, cal_s, cal2_s, ↓reduceIte, fa_lit, m1_lit, m2_lit, m1_lt, m2_lt, m1_eq, m2_eq, m1_le, m2_le, le_m1, le_m2, lt_m1, lt_m2, m12, m21, m1_m1, n_lt, n_le, n_eq, lt_t, lt_f, le_t, le_f, eq_t, eq_f, n_cl, inb_ok, n_add, pk_mul, pk_sub, n_rem, n_div, n_dec, n_mx, n_mn, eq_m1, eq_m2, ss_same, ss_ne, ss_r, ss_l, sr_f, sr_l, sr_same, sr_ne, sw_f, sw_l, sw_at, sw_ne, pk_us, pk_un, bI_t, bI_f, not_true_eq_false, not_false_eq_true, eq_self, and_true, true_and, and_false, false_and, or_true, true_or, or_false, false_or, decide_true, decide_false, Bool.false_eq_true, Bool.true_eq_false, ↓cal_w (t_ofCopy (τ := τ) (show a < 10 by omega) (show 1 < 4 by omega)), t_ofCopy (τ := τ) (show a < 10 by omega) (show 1 < 4 by omega), ↓cal_w (t_ofCopy (τ := τ) (show a < 10 by omega) (show 2 < 4 by omega)), t_ofCopy (τ := τ) (show a < 10 by omega) (show 2 < 4 by omega), ↓cal_w (t_ofCopy (τ := τ) (show a < 10 by omega) (show 3 < 4 by omega)), t_ofCopy (τ := τ) (show a < 10 by omega) (show 3 < 4 by omega), e1, e2, e3, e4, Bool.or_false, Bool.and_true]
            obtain ⟨n, rfl⟩ : ∃ k, n = k + 1 := ⟨n - 1, by omega⟩
            rw [f_X8_isFit_2]
            have := k1 F 0 (by omega) (by omega) (fun i hi => by omega)
            simp (disch := omega) only [↓bnd_i, ↓cal_s, ↓cal_n, ↓cal2_s, ↓cal2_n, cal_s, cal2_s, ↓reduceIte, fa_lit, m1_lit, m2_lit, m1_lt, m2_lt, m1_eq, m2_eq, m1_le, m2_le, le_m1, le_m2, lt_m1, lt_m2, m12, m21, m1_m1, n_lt, n_le, n_eq, lt_t, lt_f, le_t, le_f, eq_t, eq_f, n_cl, inb_ok, n_add, pk_mul, pk_sub, n_rem, n_div, n_dec, n_mx, n_mn, eq_m1, eq_m2, ss_same, ss_ne, ss_r, ss_l, sr_f, sr_l, sr_same, sr_ne, sw_f, sw_l, sw_at, sw_ne, pk_us, pk_un, bI_t, bI_f, not_true_eq_false, not_false_eq_true, eq_self, and_true, true_and, and_false, false_and, or_true, true_or, or_false, false_or, decide_true, decide_false, Bool.false_eq_true, Bool.true_eq_false]
            exact this
          · have ih' := ih f u (by omega) (by omega) (by omega)
            simp (disch := omega) only [↓bnd_i, ↓cal_s, ↓cal_n, ↓cal2_s, ↓cal2_n, cal_s, cal2_s, ↓reduceIte, fa_lit, m1_lit, m2_lit, m1_lt, m2_lt, m1_eq, m2_eq, m1_le, m2_le, le_m1, le_m2, lt_m1, lt_m2, m12, m21, m1_m1, n_lt, n_le, n_eq, lt_t, lt_f, le_t, le_f, eq_t, eq_f, n_cl, inb_ok, n_add, pk_mul, pk_sub, n_rem, n_div, n_dec, n_mx, n_mn, eq_m1, eq_m2, ss_same, ss_ne, ss_r, ss_l, sr_f, sr_l, sr_same, sr_ne, sw_f, sw_l, sw_at, sw_ne, pk_us, pk_un, bI_t, bI_f, not_true_eq_false, not_false_eq_true, eq_self, and_true, true_and, and_false, false_and, or_true, true_or, or_false, false_or, decide_true, decide_false, Bool.false_eq_true, Bool.true_eq_false, ↓cal_w (t_ofCopy (τ := τ) (show a < 10 by omega) (show 1 < 4 by omega)), t_ofCopy (τ := τ) (show a < 10 by omega) (show 1 < 4 by omega), ↓cal_w (t_ofCopy (τ := τ) (show a < 10 by omega) (show 2 < 4 by omega)), t_ofCopy (τ := τ) (show a < 10 by omega) (show 2 < 4 by omega), ↓cal_w (t_ofCopy (τ := τ) (show a < 10 by omega) (show 3 < 4 by omega)), t_ofCopy (τ := τ) (show a < 10 by omega) (show 3 < 4 by omega), e1, e2, e3, e4, Bool.or_false]
            exact ih'
        · rw [d2] at e3
          simp (disch := omega) only [↓bnd_i, ↓cal_s, ↓cal_n, ↓cal2_s, ↓cal2_n, cal_s, cal2_s, ↓reduceIte, fa_lit, m1_lit, m2_lit, m1_lt, m2_lt, m1_eq, m2_eq, m1_le, m2_le, le_m1, le_m2, lt_m1, lt_m2, m12, m21, m1_m1, n_lt, n_le, n_eq, lt_t, lt_f, le_t, le_f, eq_t, eq_f, n_cl, inb_ok, n_add, pk_mul, pk_sub, n_rem, n_div, n_dec, n_mx, n_mn, eq_m1, eq_m2, ss_same, ss_ne, ss_r, ss_l, sr_f, sr_l, sr_same, sr_ne, sw_f, sw_l, sw_at, sw_ne, pk_us, pk_un, bI_t, bI_f, not_true_eq_false, not_false_eq_true, eq_self, and_true, true_and, and_false, false_and, or_true, true_or, or_false, false_or, decide_true, decide_false, Bool.false_eq_true, Bool.true_eq_false, ↓cal_w (t_ofCopy (τ := τ) (show a < 10 by omega) (show 1 < 4 by omega)), t_ofCopy (τ := τ) (show a < 10 by omega) (show 1 < 4 by omega), ↓cal_w (t_ofCopy (τ := τ) (show a < 10 by omega) (show 2 < 4 by omega)), t_ofCopy (τ := τ) (show a < 10 by omega) (show 2 < 4 by omega), ↓cal_w (t_ofCopy (τ := τ) (show a < 10 by omega) (show 3 < 4 by omega)), t_ofCopy (τ := τ) (show a < 10 by omega) (show 3 < 4 by omega), e2, e3, Bool.or_true, Bool.and_false]
      · rw [d1] at e2
        simp (disch := omega) only [↓bnd_i, ↓cal_s, ↓cal_n, ↓cal2_s, ↓cal2_n, cal_s, cal2_s, ↓reduceIte, fa_lit, m1_lit, m2_lit, m1_lt, m2_lt, m1_eq, m2_eq, m1_le, m2_le, le_m1, le_m2, lt_m1, lt_m2, m12, m21, m1_m1, n_lt, n_le, n_eq, lt_t, lt_f, le_t, le_f, eq_t, eq_f, n_cl, inb_ok, n_add, pk_mul, pk_sub, n_rem, n_div, n_dec, n_mx, n_mn, eq_m1, eq_m2, ss_same, ss_ne, ss_r, ss_l, sr_f, sr_l, sr_same, sr_ne, sw_f, sw_l, sw_at, sw_ne, pk_us, pk_un, bI_t, bI_f, not_true_eq_false, not_false_eq_true, eq_self, and_true, true_and, and_false, false_and, or_true, true_or, or_false, false_or, decide_true, decide_false, Bool.false_eq_true, Bool.true_eq_false, ↓cal_w (t_ofCopy (τ := τ) (show a < 10 by omega) (show 2 < 4 by omega)), t_ofCopy (τ := τ) (show a < 10 by omega) (show 2 < 4 by omega), e2, Bool.true_or, Bool.and_false]
  exact key F 10 c hc (by omega) (by omega)
theorem d_isOpen {F : Nat} {σ : St} {N : Nat → Int32} (h : NN N) (j : JJ σ N) {c : Nat} (hc : c < nc N) : f_X0_isOpen F σ (nI c) = some (bI (co N c)) := by
  obtain ⟨b1, b2, b3, b4, b5, b6, b7, b8⟩ := NNb h
  have o1 : σ.1 9 = nI (bs (co N) (nc N)) := j.2.2.1
  unfold f_X0_isOpen
  cases d : co N c
  · simp (disch := omega) only [↓bnd_i, ↓cal_s, ↓cal_n, ↓cal2_s, ↓cal2_n, cal_s, cal2_s, ↓reduceIte, fa_lit, m1_lit, m2_lit, m1_lt, m2_lt, m1_eq, m2_eq, m1_le, m2_le, le_m1, le_m2, lt_m1, lt_m2, m12, m21, m1_m1, n_lt, n_le, n_eq, lt_t, lt_f, le_t, le_f, eq_t, eq_f, n_cl, inb_ok, n_add, pk_mul, pk_sub, n_rem, n_div, n_dec, n_mx, n_mn, eq_m1, eq_m2, ss_same, ss_ne, ss_r, ss_l, sr_f, sr_l, sr_same, sr_ne, sw_f, sw_l, sw_at, sw_ne, pk_us, pk_un, bI_t, bI_f, not_true_eq_false, not_false_eq_true, eq_self, and_true, true_and, and_false, false_and, or_true, true_or, or_false, false_or, decide_true, decide_false, Bool.false_eq_true, Bool.true_eq_false, ↓cal_w (d_hasCopy h j _), d_hasCopy h j _, isN_t hc (show nc N ≤ 2 ^ 31 by omega), o1, st_tst, d]
  · simp (disch := omega) only [↓bnd_i, ↓cal_s, ↓cal_n, ↓cal2_s, ↓cal2_n, cal_s, cal2_s, ↓reduceIte, fa_lit, m1_lit, m2_lit, m1_lt, m2_lt, m1_eq, m2_eq, m1_le, m2_le, le_m1, le_m2, lt_m1, lt_m2, m12, m21, m1_m1, n_lt, n_le, n_eq, lt_t, lt_f, le_t, le_f, eq_t, eq_f, n_cl, inb_ok, n_add, pk_mul, pk_sub, n_rem, n_div, n_dec, n_mx, n_mn, eq_m1, eq_m2, ss_same, ss_ne, ss_r, ss_l, sr_f, sr_l, sr_same, sr_ne, sw_f, sw_l, sw_at, sw_ne, pk_us, pk_un, bI_t, bI_f, not_true_eq_false, not_false_eq_true, eq_self, and_true, true_and, and_false, false_and, or_true, true_or, or_false, false_or, decide_true, decide_false, Bool.false_eq_true, Bool.true_eq_false, ↓cal_w (d_hasCopy h j _), d_hasCopy h j _, isN_t hc (show nc N ≤ 2 ^ 31 by omega), o1, st_tst, d]
theorem d_isDropped {F : Nat} {σ : St} {N : Nat → Int32} (h : NN N) (j : JJ σ N) {c : Nat} (hc : c < nc N) : f_X0_isDropped F σ (nI c) = some (bI (cd N c)) := by
  obtain ⟨b1, b2, b3, b4, b5, b6, b7, b8⟩ := NNb h
  have o2 : σ.1 10 = nI (bs (cd N) (nc N)) := j.2.2.2.1
  unfold f_X0_isDropped
  cases d : cd N c
  · simp (disch := omega) only [↓bnd_i, ↓cal_s, ↓cal_n, ↓cal2_s, ↓cal2_n, cal_s, cal2_s, ↓reduceIte, fa_lit, m1_lit, m2_lit, m1_lt, m2_lt, m1_eq, m2_eq, m1_le, m2_le, le_m1, le_m2, lt_m1, lt_m2, m12, m21, m1_m1, n_lt, n_le, n_eq, lt_t, lt_f, le_t, le_f, eq_t, eq_f, n_cl, inb_ok, n_add, pk_mul, pk_sub, n_rem, n_div, n_dec, n_mx, n_mn, eq_m1, eq_m2, ss_same, ss_ne, ss_r, ss_l, sr_f, sr_l, sr_same, sr_ne, sw_f, sw_l, sw_at, sw_ne, pk_us, pk_un, bI_t, bI_f, not_true_eq_false, not_false_eq_true, eq_self, and_true, true_and, and_false, false_and, or_true, true_or, or_false, false_or, decide_true, decide_false, Bool.false_eq_true, Bool.true_eq_false, ↓cal_w (d_hasCopy h j _), d_hasCopy h j _, isN_t hc (show nc N ≤ 2 ^ 31 by omega), o2, st_tst, d]
  · simp (disch := omega) only [↓bnd_i, ↓cal_s, ↓cal_n, ↓cal2_s, ↓cal2_n, cal_s, cal2_s, ↓reduceIte, fa_lit, m1_lit, m2_lit, m1_lt, m2_lt, m1_eq, m2_eq, m1_le, m2_le, le_m1, le_m2, lt_m1, lt_m2, m12, m21, m1_m1, n_lt, n_le, n_eq, lt_t, lt_f, le_t, le_f, eq_t, eq_f, n_cl, inb_ok, n_add, pk_mul, pk_sub, n_rem, n_div, n_dec, n_mx, n_mn, eq_m1, eq_m2, ss_same, ss_ne, ss_r, ss_l, sr_f, sr_l, sr_same, sr_ne, sw_f, sw_l, sw_at, sw_ne, pk_us, pk_un, bI_t, bI_f, not_true_eq_false, not_false_eq_true, eq_self, and_true, true_and, and_false, false_and, or_true, true_or, or_false, false_or, decide_true, decide_false, Bool.false_eq_true, Bool.true_eq_false, ↓cal_w (d_hasCopy h j _), d_hasCopy h j _, isN_t hc (show nc N ≤ 2 ^ 31 by omega), o2, st_tst, d]
theorem d_isOpenN {F : Nat} {σ : St} {N : Nat → Int32} (h : NN N) (j : JJ σ N) {x : Int32} (c : isN x (nc N) = false) : f_X0_isOpen F σ x = some (nI 0) := by
  unfold f_X0_isOpen
  simp (disch := omega) only [↓bnd_i, ↓cal_s, ↓cal_n, ↓cal2_s, ↓cal2_n, cal_s, cal2_s, ↓reduceIte, fa_lit, m1_lit, m2_lit, m1_lt, m2_lt, m1_eq, m2_eq, m1_le, m2_le, le_m1, le_m2, lt_m1, lt_m2, m12, m21, m1_m1, n_lt, n_le, n_eq, lt_t, lt_f, le_t, le_f, eq_t, eq_f, n_cl, inb_ok, n_add, pk_mul, pk_sub, n_rem, n_div, n_dec, n_mx, n_mn, eq_m1, eq_m2, ss_same, ss_ne, ss_r, ss_l, sr_f, sr_l, sr_same, sr_ne, sw_f, sw_l, sw_at, sw_ne, pk_us, pk_un, bI_t, bI_f, not_true_eq_false, not_false_eq_true, eq_self, and_true, true_and, and_false, false_and, or_true, true_or, or_false, false_or, decide_true, decide_false, Bool.false_eq_true, Bool.true_eq_false, ↓cal_w (d_hasCopy h j _), d_hasCopy h j _, c]
theorem d_lineOf {F : Nat} {σ : St} {N : Nat → Int32} (h : NN N) (j : JJ σ N) {c : Nat} (hc : c < nc N) : f_X0_lineOf F σ (nI c) = some (N (60 + 4 * c)) := by
  obtain ⟨b1, b2, b3, b4, b5, b6, b7, b8⟩ := NNb h
  unfold f_X0_lineOf
  simp (disch := omega) only [↓bnd_i, ↓cal_s, ↓cal_n, ↓cal2_s, ↓cal2_n, cal_s, cal2_s, ↓reduceIte, fa_lit, m1_lit, m2_lit, m1_lt, m2_lt, m1_eq, m2_eq, m1_le, m2_le, le_m1, le_m2, lt_m1, lt_m2, m12, m21, m1_m1, n_lt, n_le, n_eq, lt_t, lt_f, le_t, le_f, eq_t, eq_f, n_cl, inb_ok, n_add, pk_mul, pk_sub, n_rem, n_div, n_dec, n_mx, n_mn, eq_m1, eq_m2, ss_same, ss_ne, ss_r, ss_l, sr_f, sr_l, sr_same, sr_ne, sw_f, sw_l, sw_at, sw_ne, pk_us, pk_un, bI_t, bI_f, not_true_eq_false, not_false_eq_true, eq_self, and_true, true_and, and_false, false_and, or_true, true_or, or_false, false_or, decide_true, decide_false, Bool.false_eq_true, Bool.true_eq_false, ↓cal_w (d_hasCopy h j _), d_hasCopy h j _, isN_t hc (show nc N ≤ 2 ^ 31 by omega), (j_cop j hc).1]
/-- how long a chain is -/
def chF (N : Nat → Int32) : Nat → Nat → Nat
  | 0, _ => 0
  | f + 1, c => match up N c with
    | none => 1
    | some u => chF N f u + 1
theorem chF_s {N : Nat → Int32} {f c : Nat} : chF N (f + 1) c = match up N c with
    | none => 1
    | some u => chF N f u + 1 := rfl
theorem d_chainOf {F : Nat} (hF : 20 < F) {σ : St} {N : Nat → Int32} (h : NN N) (j : JJ σ N) {c : Nat} (hc : c < nc N) : f_X0_chainOf F σ (nI c) = some (nI (chF N 10 c)) := by
  obtain ⟨b1, b2, b3, b4, b5, b6, b7, b8⟩ := NNb h
  have key : ∀ n f c s, c < nc N → c < f → c + 1 < n → c + s < 10 → f_X0_chainOf_4 F n σ (nI s) (nI c) = some (nI (s + chF N f c)) := by
    intro n
    induction n with
    | zero => intro f c s _ _ h; omega
    | succ n ih =>
      intro f c s hc hf hn hs
      obtain ⟨f, rfl⟩ : ∃ k, f = k + 1 := ⟨f - 1, by omega⟩
      obtain ⟨j1, j2, j3⟩ := j_cop j hc
      rw [f_X0_chainOf_4, chF_s]
      rcases up_in h hc with ⟨e1, e2⟩ | ⟨u, hu, e1, e2⟩
      · simp (disch := omega) only [↓bnd_i, ↓cal_s, ↓cal_n, ↓cal2_s, ↓cal2_n, cal_s, cal2_s, ↓reduceIte, fa_lit, m1_lit, m2_lit, m1_lt, m2_lt, m1_eq, m2_eq, m1_le, m2_le, le_m1, le_m2, lt_m1, lt_m2, m12, m21, m1_m1, n_lt, n_le, n_eq, lt_t, lt_f, le_t, le_f, eq_t, eq_f, n_cl, inb_ok, n_add, pk_mul, pk_sub, n_rem, n_div, n_dec, n_mx, n_mn, eq_m1, eq_m2, ss_same, ss_ne, ss_r, ss_l, sr_f, sr_l, sr_same, sr_ne, sw_f, sw_l, sw_at, sw_ne, pk_us, pk_un, bI_t, bI_f, not_true_eq_false, not_false_eq_true, eq_self, and_true, true_and, and_false, false_and, or_true, true_or, or_false, false_or, decide_true, decide_false, Bool.false_eq_true, Bool.true_eq_false, ↓cal_w (d_hasCopy h j _), d_hasCopy h j _, isN_t hc (show nc N ≤ 2 ^ 31 by omega), j2, e1, e2]
        obtain ⟨n, rfl⟩ : ∃ k, n = k + 1 := ⟨n - 1, by omega⟩
        rw [f_X0_chainOf_4]
        by_cases d2 : 10 ≤ s + 1
        · simp (disch := omega) only [↓bnd_i, ↓cal_s, ↓cal_n, ↓cal2_s, ↓cal2_n, cal_s, cal2_s, ↓reduceIte, fa_lit, m1_lit, m2_lit, m1_lt, m2_lt, m1_eq, m2_eq, m1_le, m2_le, le_m1, le_m2, lt_m1, lt_m2, m12, m21, m1_m1, n_lt, n_le, n_eq, lt_t, lt_f, le_t, le_f, eq_t, eq_f, n_cl, inb_ok, n_add, pk_mul, pk_sub, n_rem, n_div, n_dec, n_mx, n_mn, eq_m1, eq_m2, ss_same, ss_ne, ss_r, ss_l, sr_f, sr_l, sr_same, sr_ne, sw_f, sw_l, sw_at, sw_ne, pk_us, pk_un, bI_t, bI_f, not_true_eq_false, not_false_eq_true, eq_self, and_true, true_and, and_false, false_and, or_true, true_or, or_false, false_or, decide_true, decide_false, Bool.false_eq_true, Bool.true_eq_false]
        · simp (disch := omega) only [↓bnd_i, ↓cal_s, ↓cal_n, ↓cal2_s, ↓cal2_n, cal_s, cal2_s, ↓reduceIte, fa_lit, m1_lit, m2_lit, m1_lt, m2_lt, m1_eq, m2_eq, m1_le, m2_le, le_m1, le_m2, lt_m1, lt_m2, m12, m21, m1_m1, n_lt, n_le, n_eq, lt_t, lt_f, le_t, le_f, eq_t, eq_f, n_cl, inb_ok, n_add, pk_mul, pk_sub, n_rem, n_div, n_dec, n_mx, n_mn, eq_m1, eq_m2, ss_same, ss_ne, ss_r, ss_l, sr_f, sr_l, sr_same, sr_ne, sw_f, sw_l, sw_at, sw_ne, pk_us, pk_un, bI_t, bI_f, not_true_eq_false, not_false_eq_true, eq_self, and_true, true_and, and_false, false_and, or_true, true_or, or_false, false_or, decide_true, decide_false, Bool.false_eq_true, Bool.true_eq_false, ↓cal_w (d_hasCopyM h j), d_hasCopyM h j]
      · have ih' := ih f u (s + 1) (by omega) (by omega) (by omega) (by omega)
        rw [show s + 1 + chF N f u = s + (chF N f u + 1) by omega] at ih'
        simp (disch := omega) only [↓bnd_i, ↓cal_s, ↓cal_n, ↓cal2_s, ↓cal2_n, cal_s, cal2_s, ↓reduceIte, fa_lit, m1_lit, m2_lit, m1_lt, m2_lt, m1_eq, m2_eq, m1_le, m2_le, le_m1, le_m2, lt_m1, lt_m2, m12, m21, m1_m1, n_lt, n_le, n_eq, lt_t, lt_f, le_t, le_f, eq_t, eq_f, n_cl, inb_ok, n_add, pk_mul, pk_sub, n_rem, n_div, n_dec, n_mx, n_mn, eq_m1, eq_m2, ss_same, ss_ne, ss_r, ss_l, sr_f, sr_l, sr_same, sr_ne, sw_f, sw_l, sw_at, sw_ne, pk_us, pk_un, bI_t, bI_f, not_true_eq_false, not_false_eq_true, eq_self, and_true, true_and, and_false, false_and, or_true, true_or, or_false, false_or, decide_true, decide_false, Bool.false_eq_true, Bool.true_eq_false, ↓cal_w (d_hasCopy h j _), d_hasCopy h j _, isN_t hc (show nc N ≤ 2 ^ 31 by omega), j2, e1, e2]
        exact ih'
  have e := key F 10 c 0 hc (by omega) (by omega) (by omega)
  rw [Nat.zero_add] at e
  exact e
theorem t_chainOf {F : Nat} (hF : 20 < F) {τ : St} (h : NN (nw τ)) {c : Nat} (hc : c < nc (nw τ)) : f_X8_chainOf F τ (nI c) = some (nI (chF (nw τ) 10 c)) := by
  obtain ⟨b1, b2, b3, b4, b5, b6, b7, b8⟩ := NNb h
  have key : ∀ n f c s, c < nc (nw τ) → c < f → c + 1 < n → f_X8_chainOf_4 F n τ (nI s) (nI c) = some (nI (s + chF (nw τ) f c)) := by
    intro n
    induction n with
    | zero => intro f c s _ _ h; omega
    | succ n ih =>
      intro f c s hc hf hn
      obtain ⟨f, rfl⟩ : ∃ k, f = k + 1 := ⟨f - 1, by omega⟩
      rw [f_X8_chainOf_4, chF_s]
      rcases up_in h hc with ⟨e1, e2⟩ | ⟨u, hu, e1, e2⟩
      · simp (disch := omega) only [↓bnd_i, ↓cal_s, ↓cal_n, ↓cal2_s, ↓cal2_n, cal_s, cal2_s, ↓reduceIte, fa_lit, m1_lit, m2_lit, m1_lt, m2_lt, m1_eq, m2_eq, m1_le, m2_le, le_m1, le_m2, lt_m1, lt_m2, m12, m21, m1_m1, n_lt, n_le, n_eq, lt_t, lt_f, le_t, le_f, eq_t, eq_f, n_cl, inb_ok, n_add, pk_mul, pk_sub, n_rem, n_div, n_dec, n_mx, n_mn, eq_m1, eq_m2, ss_same, ss_ne, ss_r, ss_l, sr_f, sr_l, sr_same, sr_ne, sw_f, sw_l, sw_at, sw_ne, pk_us, pk_un, bI_t, bI_f, not_true_eq_false, not_false_eq_true, eq_self, and_true, true_and, and_false, false_and, or_true, true_or, or_false, false_or, decide_true, decide_false, Bool.false_eq_true, Bool.true_eq_false, ↓cal_w (t_ofCopy (τ := τ) (show c < 10 by omega) (show 1 < 4 by omega)), t_ofCopy (τ := τ) (show c < 10 by omega) (show 1 < 4 by omega), e1, e2]
        obtain ⟨n, rfl⟩ : ∃ k, n = k + 1 := ⟨n - 1, by omega⟩
        rw [f_X8_chainOf_4]
        simp (disch := omega) only [↓bnd_i, ↓cal_s, ↓cal_n, ↓cal2_s, ↓cal2_n, cal_s, cal2_s, ↓reduceIte, fa_lit, m1_lit, m2_lit, m1_lt, m2_lt, m1_eq, m2_eq, m1_le, m2_le, le_m1, le_m2, lt_m1, lt_m2, m12, m21, m1_m1, n_lt, n_le, n_eq, lt_t, lt_f, le_t, le_f, eq_t, eq_f, n_cl, inb_ok, n_add, pk_mul, pk_sub, n_rem, n_div, n_dec, n_mx, n_mn, eq_m1, eq_m2, ss_same, ss_ne, ss_r, ss_l, sr_f, sr_l, sr_same, sr_ne, sw_f, sw_l, sw_at, sw_ne, pk_us, pk_un, bI_t, bI_f, not_true_eq_false, not_false_eq_true, eq_self, and_true, true_and, and_false, false_and, or_true, true_or, or_false, false_or, decide_true, decide_false, Bool.false_eq_true, Bool.true_eq_false]
      · have ih' := ih f u (s + 1) (by omega) (by omega) (by omega)
        rw [show s + 1 + chF (nw τ) f u = s + (chF (nw τ) f u + 1) by omega] at ih'
        simp (disch := omega) only [↓bnd_i, ↓cal_s, ↓cal_n, ↓cal2_s, ↓cal2_n, cal_s, cal2_s, ↓reduceIte, fa_lit, m1_lit, m2_lit, m1_lt, m2_lt, m1_eq, m2_eq, m1_le, m2_le, le_m1, le_m2, lt_m1, lt_m2, m12, m21, m1_m1, n_lt, n_le, n_eq, lt_t, lt_f, le_t, le_f, eq_t, eq_f, n_cl, inb_ok, n_add, pk_mul, pk_sub, n_rem, n_div, n_dec, n_mx, n_mn, eq_m1, eq_m2, ss_same, ss_ne, ss_r, ss_l, sr_f, sr_l, sr_same, sr_ne, sw_f, sw_l, sw_at, sw_ne, pk_us, pk_un, bI_t, bI_f, not_true_eq_false, not_false_eq_true, eq_self, and_true, true_and, and_false, false_and, or_true, true_or, or_false, false_or, decide_true, decide_false, Bool.false_eq_true, Bool.true_eq_false, ↓cal_w (t_ofCopy (τ := τ) (show c < 10 by omega) (show 1 < 4 by omega)), t_ofCopy (τ := τ) (show c < 10 by omega) (show 1 < 4 by omega), e1, e2]
        exact ih'
  have e := key F 10 c 0 hc (by omega) (by omega)
  rw [Nat.zero_add] at e
  exact e
