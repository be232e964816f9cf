/-! PURE: what holds between two calls, and the law -/
def hw (τ : St) (s : Nat) : Nat → Int32 := fun k => τ.2.1 23 (7164 * s + k)
/-- the tapes -/
def Tp (σ τ : St) : Prop := ∃ k, k ≤ 2000 ∧ σ.1 1 = nI k ∧ τ.1 1 = nI k ∧ ∀ i, i < k → σ.2.1 9 i = τ.2.1 1 i ∧ vp_nar .byte (σ.2.1 9 i) = σ.2.1 9 i
/-- the slots -/
def Sl (hl : Nat → Bool) (σ τ : St) (ex : Nat → Bool) (β : Nat → St) : Prop := σ.1 0 = nI (bs hl 3) ∧ (∀ s, s < 3 → τ.2.1 22 s = bI (hl s)) ∧ ∀ s, s < 3 → hl s = true → ex s = true ∧ NN (hw τ s) ∧ JJ (β s) (hw τ s) ∧ hw τ s 6 = nw τ 6
def kyN : List Nat := [8527996, 8683934, 12584543, 841, 257105, 124995, 70441, 425426, 394691, 1841972, 7055815802, 247649, 123, 4027, 9, 10, 8740067, 243140, 51339979, 404923]
def Ks (τ : St) : Prop := ∀ i, i < 20 → τ.2.2 7 i = lN (kyN.getD i 0)
def Inv (σ τ : St) (ex : Nat → Bool) (β : Nat → St) : Prop := Core σ τ ∧ SB σ ∧ Tp σ τ ∧ σ.1 2 = τ.1 10 ∧ σ.1 3 = nw τ 6 ∧ (∃ hl, Sl hl σ τ ex β) ∧ Ks τ
theorem Inv.opx {σ τ σ' τ' : St} {ex : Nat → Bool} {β : Nat → St} (I : Inv σ τ ex β) (C : Core σ' τ') (f : FrX σ σ') (s : SB σ → SB σ') (g : FrM τ τ') (e : nw τ' 6 = nw τ 6) : Inv σ' τ' ex β := by
  obtain ⟨-, i2, ⟨k, k1, k2, k3, k4⟩, i4, i5, ⟨hl, l1, l2, l3⟩, i7⟩ := I
  refine ⟨C, s i2, ⟨k, k1, ?_, ?_, fun i hi => ?_⟩, ?_, ?_, ⟨hl, ?_, fun s hs => ?_, fun s hs q => ?_⟩, fun i hi => ?_⟩
  · rw [f.1 1 (by omega)]; exact k2
  · rw [g.1 1 (by omega)]; exact k3
  · rw [f.2.1 9 (by omega), g.2.1 1 (by omega)]; exact k4 i hi
  · rw [f.1 2 (by omega), g.1 10 (by omega)]; exact i4
  · rw [f.1 3 (by omega), e]; exact i5
  · rw [f.1 0 (by omega)]; exact l1
  · rw [g.2.1 22 (by omega)]; exact l2 s hs
  · obtain ⟨x1, x2, x3, x4⟩ := l3 s hs q
    have eh : hw τ' s = hw τ s := by unfold hw; rw [g.2.1 23 (by omega)]
    rw [eh, e]
    exact ⟨x1, x2, x3, x4⟩
  · rw [g.2.2]; exact i7 i hi
section
variable {σ τ : St} {ex : Nat → Bool} {β : Nat → St} {K : St → St → (Nat → Bool) → (Nat → St) → Option Int32}
theorem law_X {A B : Option (Int32 × St)} (I : Inv σ τ ex β) (hK : ∀ σ' τ' ex' β', Inv σ' τ' ex' β' → K σ' τ' ex' β' = some 1) (h : OpX σ τ A B) : cal2 A (fun r1 σ1 => cal2 B (fun r2 τ1 => if r1 = r2 then (K σ1 τ1 ex β) else (some 0))) = some 1 := by
  obtain ⟨r, σ', τ', e1, e2, C, ⟨f, s⟩, g, e⟩ := h
  rw [cal2_w e1, cal2_w e2, if_pos rfl]
  exact hK _ _ _ _ (I.opx C f s g e)
theorem law_Q {A B : Option Int32} (I : Inv σ τ ex β) (hK : ∀ σ' τ' ex' β', Inv σ' τ' ex' β' → K σ' τ' ex' β' = some 1) (h : Qy A B) : cal A (fun r1 => cal B (fun r2 => if r1 = r2 then (K σ τ ex β) else (some 0))) = some 1 := by
  obtain ⟨r, e1, e2⟩ := h
  rw [cal_w e1, cal_w e2, if_pos rfl]
  exact hK _ _ _ _ I
theorem law_I {A B : Option (Int32 × St)} (hK : ∀ σ' τ' ex' β', Inv σ' τ' ex' β' → K σ' τ' ex' β' = some 1) (h : ∃ r σ' τ', A = some (r, σ') ∧ B = some (r, τ') ∧ Inv σ' τ' ex β) : cal2 A (fun r1 σ1 => cal2 B (fun r2 τ1 => if r1 = r2 then (K σ1 τ1 ex β) else (some 0))) = some 1 := by
  obtain ⟨r, σ', τ', e1, e2, I⟩ := h
  rw [cal2_w e1, cal2_w e2, if_pos rfl]
  exact hK _ _ _ _ I
end
/-! the tape -/
theorem sh24 : nI 24 + -nI 8 = nI 16 ∧ nI 16 + -nI 8 = nI 8 ∧ nI 8 + -nI 8 = nI 0 ∧ nI 0 + -nI 8 = -nI 8 ∧ -nI 8 < nI 0 := by decide +kernel
theorem d_put4 {F : Nat} {σ : St} (hF : 10 < F) {k : Nat} (h1 : σ.1 1 = nI k) (hk : k + 4 ≤ 2000) (x : Int32) : ∃ g, f_X7_putBytes F σ x = some (ss (sw σ 9 g) 1 (nI (k + 4))) ∧ (∀ i, i < k → g i = σ.2.1 9 i) ∧ ∀ i, i < 4 → g (k + i) = vp_nar .byte (Int8.toInt32 (Int32.toInt8 (x >>> (nI (24 - 8 * i) &&& nI 31)))) := by
  obtain ⟨m, rfl⟩ : ∃ m, F = m + 5 := ⟨F - 5, by omega⟩
  obtain ⟨s1, s2, s3, s4, s5⟩ := sh24
  refine ⟨upd (upd (upd (upd (σ.2.1 9) k (vp_nar .byte (Int8.toInt32 (Int32.toInt8 (x >>> (nI 24 &&& nI 31)))))) (k + 1) (vp_nar .byte (Int8.toInt32 (Int32.toInt8 (x >>> (nI 16 &&& nI 31)))))) (k + 2) (vp_nar .byte (Int8.toInt32 (Int32.toInt8 (x >>> (nI 8 &&& nI 31)))))) (k + 3) (vp_nar .byte (Int8.toInt32 (Int32.toInt8 (x >>> (nI 0 &&& nI 31))))), ?_, ?_, ?_⟩
  · unfold f_X7_putBytes
    rw [f_X7_putBytes_3]
    simp (disch := omega) only [↓bnd_i, ↓cal_s, ↓cal_n, ↓cal2_s, ↓cal2_n, cal_s, cal2_s, ↓reduceIte, fa_lit, m1_lit, m2_lit, m1_lt, m2_lt, m1_eq, m2_eq, m1_le, m2_le, le_m1, le_m2, lt_m1, lt_m2, m12, m21, m1_m1, n_lt, n_le, n_eq, lt_t, lt_f, le_t, le_f, eq_t, eq_f, n_cl, inb_ok, n_add, pk_mul, pk_sub, n_rem, n_div, n_dec, n_mx, n_mn, eq_m1, eq_m2, ss_same, ss_ne, ss_r, ss_l, sr_f, sr_l, sr_same, sr_ne, sw_f, sw_l, sw_at, sw_ne, pk_us, pk_un, bI_t, bI_f, not_true_eq_false, not_false_eq_true, eq_self, and_true, true_and, and_false, false_and, or_true, true_or, or_false, false_or, decide_true, decide_false, Bool.false_eq_true, Bool.true_eq_false, h1, f_X7_putBytes_49, s1]
    rw [f_X7_putBytes_3]
    simp (disch := omega) only [↓bnd_i, ↓cal_s, ↓cal_n, ↓cal2_s, ↓cal2_n, cal_s, cal2_s, ↓reduceIte, fa_lit, m1_lit, m2_lit, m1_lt, m2_lt, m1_eq, m2_eq, m1_le, m2_le, le_m1, le_m2, lt_m1, lt_m2, m12, m21, m1_m1, n_lt, n_le, n_eq, lt_t, lt_f, le_t, le_f, eq_t, eq_f, n_cl, inb_ok, n_add, pk_mul, pk_sub, n_rem, n_div, n_dec, n_mx, n_mn, eq_m1, eq_m2, ss_same, ss_ne, ss_r, ss_l, sr_f, sr_l, sr_same, sr_ne, sw_f, sw_l, sw_at, sw_ne, pk_us, pk_un, bI_t, bI_f, not_true_eq_false, not_false_eq_true, eq_self, and_true, true_and, and_false, false_and, or_true, true_or, or_false, false_or, decide_true, decide_false, Bool.false_eq_true, Bool.true_eq_false, h1, f_X7_putBytes_49, s2]
    rw [f_X7_putBytes_3]
    simp (disch := omega) only [↓bnd_i, ↓cal_s, ↓cal_n, ↓cal2_s, ↓cal2_n, cal_s, cal2_s, ↓reduceIte, fa_lit, m1_lit, m2_lit, m1_lt, m2_lt, m1_eq, m2_eq, m1_le, m2_le, le_m1, le_m2, lt_m1, lt_m2, m12, m21, m1_m1, n_lt, n_le, n_eq, lt_t, lt_f, le_t, le_f, eq_t, eq_f, n_cl, inb_ok, n_add, pk_mul, pk_sub, n_rem, n_div, n_dec, n_mx, n_mn, eq_m1, eq_m2, ss_same, ss_ne, ss_r, ss_l, sr_f, sr_l, sr_same, sr_ne, sw_f, sw_l, sw_at, sw_ne, pk_us, pk_un, bI_t, bI_f, not_true_eq_false, not_false_eq_true, eq_self, and_true, true_and, and_false, false_and, or_true, true_or, or_false, false_or, decide_true, decide_false, Bool.false_eq_true, Bool.true_eq_false, h1, f_X7_putBytes_49, s3]
    rw [f_X7_putBytes_3]
    simp (disch := omega) only [↓bnd_i, ↓cal_s, ↓cal_n, ↓cal2_s, ↓cal2_n, cal_s, cal2_s, ↓reduceIte, fa_lit, m1_lit, m2_lit, m1_lt, m2_lt, m1_eq, m2_eq, m1_le, m2_le, le_m1, le_m2, lt_m1, lt_m2, m12, m21, m1_m1, n_lt, n_le, n_eq, lt_t, lt_f, le_t, le_f, eq_t, eq_f, n_cl, inb_ok, n_add, pk_mul, pk_sub, n_rem, n_div, n_dec, n_mx, n_mn, eq_m1, eq_m2, ss_same, ss_ne, ss_r, ss_l, sr_f, sr_l, sr_same, sr_ne, sw_f, sw_l, sw_at, sw_ne, pk_us, pk_un, bI_t, bI_f, not_true_eq_false, not_false_eq_true, eq_self, and_true, true_and, and_false, false_and, or_true, true_or, or_false, false_or, decide_true, decide_false, Bool.false_eq_true, Bool.true_eq_false, h1, f_X7_putBytes_49, s4]
    rw [f_X7_putBytes_3]
    simp (disch := omega) only [↓bnd_i, ↓cal_s, ↓cal_n, ↓cal2_s, ↓cal2_n, cal_s, cal2_s, ↓reduceIte, fa_lit, m1_lit, m2_lit, m1_lt, m2_lt, m1_eq, m2_eq, m1_le, m2_le, le_m1, le_m2, lt_m1, lt_m2, m12, m21, m1_m1, n_lt, n_le, n_eq, lt_t, lt_f, le_t, le_f, eq_t, eq_f, n_cl, inb_ok, n_add, pk_mul, pk_sub, n_rem, n_div, n_dec, n_mx, n_mn, eq_m1, eq_m2, ss_same, ss_ne, ss_r, ss_l, sr_f, sr_l, sr_same, sr_ne, sw_f, sw_l, sw_at, sw_ne, pk_us, pk_un, bI_t, bI_f, not_true_eq_false, not_false_eq_true, eq_self, and_true, true_and, and_false, false_and, or_true, true_or, or_false, false_or, decide_true, decide_false, Bool.false_eq_true, Bool.true_eq_false, eq_true s5]
    congr 1
    unfold ss sr sw
    refine Prod.ext ?_ (Prod.ext ?_ rfl)
    · funext j
      simp only [upd]
      by_cases c : j = 1
      · simp [c]
      · simp [c]
    · funext b
      by_cases c : b = 9
      · subst c; simp [Nat.add_assoc]
      · simp [c]
  · intro i hi
    rw [pk_un (by omega), pk_un (by omega), pk_un (by omega), pk_un (by omega)]
  · intro i hi
    rcases (show i = 0 ∨ i = 1 ∨ i = 2 ∨ i = 3 by omega) with rfl | rfl | rfl | rfl
    · rw [pk_un (by omega), pk_un (by omega), pk_un (by omega), Nat.add_zero, pk_us]
    · rw [pk_un (by omega), pk_un (by omega), pk_us]
    · rw [pk_un (by omega), pk_us]
    · rw [pk_us]
theorem t_lay4 {F : Nat} {σ : St} (hF : 10 < F) {k : Nat} (h1 : σ.1 1 = nI k) (hk : k + 4 ≤ 2000) (x : Int32) : ∃ g, f_X8_lays F σ x = some (ss (sw σ 1 g) 1 (nI (k + 4))) ∧ (∀ i, i < k → g i = σ.2.1 1 i) ∧ ∀ i, i < 4 → g (k + i) = vp_nar .byte (Int8.toInt32 (Int32.toInt8 (x >>> (nI (24 - 8 * i) &&& nI 31)))) := by
  obtain ⟨m, rfl⟩ : ∃ m, F = m + 5 := ⟨F - 5, by omega⟩
  obtain ⟨s1, s2, s3, s4, s5⟩ := sh24
  refine ⟨upd (upd (upd (upd (σ.2.1 1) k (vp_nar .byte (Int8.toInt32 (Int32.toInt8 (x >>> (nI 24 &&& nI 31)))))) (k + 1) (vp_nar .byte (Int8.toInt32 (Int32.toInt8 (x >>> (nI 16 &&& nI 31)))))) (k + 2) (vp_nar .byte (Int8.toInt32 (Int32.toInt8 (x >>> (nI 8 &&& nI 31)))))) (k + 3) (vp_nar .byte (Int8.toInt32 (Int32.toInt8 (x >>> (nI 0 &&& nI 31))))), ?_, ?_, ?_⟩
  · unfold f_X8_lays
    rw [f_X8_lays_3]
    simp (disch := omega) only [↓bnd_i, ↓cal_s, ↓cal_n, ↓cal2_s, ↓cal2_n, cal_s, cal2_s, ↓reduceIte, fa_lit, m1_lit, m2_lit, m1_lt, m2_lt, m1_eq, m2_eq, m1_le, m2_le, le_m1, le_m2, lt_m1, lt_m2, m12, m21, m1_m1, n_lt, n_le, n_eq, lt_t, lt_f, le_t, le_f, eq_t, eq_f, n_cl, inb_ok, n_add, pk_mul, pk_sub, n_rem, n_div, n_dec, n_mx, n_mn, eq_m1, eq_m2, ss_same, ss_ne, ss_r, ss_l, sr_f, sr_l, sr_same, sr_ne, sw_f, sw_l, sw_at, sw_ne, pk_us, pk_un, bI_t, bI_f, not_true_eq_false, not_false_eq_true, eq_self, and_true, true_and, and_false, false_and, or_true, true_or, or_false, false_or, decide_true, decide_false, Bool.false_eq_true, Bool.true_eq_false, h1, s1]
    rw [f_X8_lays_3]
    simp (disch := omega) only [↓bnd_i, ↓cal_s, ↓cal_n, ↓cal2_s, ↓cal2_n, cal_s, cal2_s, ↓reduceIte, fa_lit, m1_lit, m2_lit, m1_lt, m2_lt, m1_eq, m2_eq, m1_le, m2_le, le_m1, le_m2, lt_m1, lt_m2, m12, m21, m1_m1, n_lt, n_le, n_eq, lt_t, lt_f, le_t, le_f, eq_t, eq_f, n_cl, inb_ok, n_add, pk_mul, pk_sub, n_rem, n_div, n_dec, n_mx, n_mn, eq_m1, eq_m2, ss_same, ss_ne, ss_r, ss_l, sr_f, sr_l, sr_same, sr_ne, sw_f, sw_l, sw_at, sw_ne, pk_us, pk_un, bI_t, bI_f, not_true_eq_false, not_false_eq_true, eq_self, and_true, true_and, and_false, false_and, or_true, true_or, or_false, false_or, decide_true, decide_false, Bool.false_eq_true, Bool.true_eq_false, h1, s2]
    rw [f_X8_lays_3]
    simp (disch := omega) only [↓bnd_i, ↓cal_s, ↓cal_n, ↓cal2_s, ↓cal2_n, cal_s, cal2_s, ↓reduceIte, fa_lit, m1_lit, m2_lit, m1_lt, m2_lt, m1_eq, m2_eq, m1_le, m2_le, le_m1, le_m2, lt_m1, lt_m2, m12, m21, m1_m1, n_lt, n_le, n_eq, lt_t, lt_f, le_t, le_f, eq_t, eq_f, n_cl, inb_ok, n_add, pk_mul, pk_sub, n_rem, n_div, n_dec, n_mx, n_mn, eq_m1, eq_m2, ss_same, ss_ne, ss_r, ss_l, sr_f, sr_l, sr_same, sr_ne, sw_f, sw_l, sw_at, sw_ne, pk_us, pk_un, bI_t, bI_f, not_true_eq_false, not_false_eq_true, eq_self, and_true, true_and, and_false, false_and, or_true, true_or, or_false, false_or, decide_true, decide_false, Bool.false_eq_true, Bool.true_eq_false, h1, s3]
    rw [f_X8_lays_3]
    simp (disch := omega) only [↓bnd_i, ↓cal_s, ↓cal_n, ↓cal2_s, ↓cal2_n, cal_s, cal2_s, ↓reduceIte, fa_lit, m1_lit, m2_lit, m1_lt, m2_lt, m1_eq, m2_eq, m1_le, m2_le, le_m1, le_m2, lt_m1, lt_m2, m12, m21, m1_m1, n_lt, n_le, n_eq, lt_t, lt_f, le_t, le_f, eq_t, eq_f, n_cl, inb_ok, n_add, pk_mul, pk_sub, n_rem, n_div, n_dec, n_mx, n_mn, eq_m1, eq_m2, ss_same, ss_ne, ss_r, ss_l, sr_f, sr_l, sr_same, sr_ne, sw_f, sw_l, sw_at, sw_ne, pk_us, pk_un, bI_t, bI_f, not_true_eq_false, not_false_eq_true, eq_self, and_true, true_and, and_false, false_and, or_true, true_or, or_false, false_or, decide_true, decide_false, Bool.false_eq_true, Bool.true_eq_false, h1, s4]
    rw [f_X8_lays_3]
    simp (disch := omega) only [↓bnd_i, ↓cal_s, ↓cal_n, ↓cal2_s, ↓cal2_n, cal_s, cal2_s, ↓reduceIte, fa_lit, m1_lit, m2_lit, m1_lt, m2_lt, m1_eq, m2_eq, m1_le, m2_le, le_m1, le_m2, lt_m1, lt_m2, m12, m21, m1_m1, n_lt, n_le, n_eq, lt_t, lt_f, le_t, le_f, eq_t, eq_f, n_cl, inb_ok, n_add, pk_mul, pk_sub, n_rem, n_div, n_dec, n_mx, n_mn, eq_m1, eq_m2, ss_same, ss_ne, ss_r, ss_l, sr_f, sr_l, sr_same, sr_ne, sw_f, sw_l, sw_at, sw_ne, pk_us, pk_un, bI_t, bI_f, not_true_eq_false, not_false_eq_true, eq_self, and_true, true_and, and_false, false_and, or_true, true_or, or_false, false_or, decide_true, decide_false, Bool.false_eq_true, Bool.true_eq_false, eq_true s5]
    congr 1
    unfold ss sr sw
    refine Prod.ext ?_ (Prod.ext ?_ rfl)
    · funext j
      simp only [upd]
      by_cases c : j = 1
      · simp [c]
      · simp [c]
    · funext b
      by_cases c : b = 1
      · subst c; simp [Nat.add_assoc]
      · simp [c]
  · intro i hi
    rw [pk_un (by omega), pk_un (by omega), pk_un (by omega), pk_un (by omega)]
  · intro i hi
    rcases (show i = 0 ∨ i = 1 ∨ i = 2 ∨ i = 3 by omega) with rfl | rfl | rfl | rfl
    · rw [pk_un (by omega), pk_un (by omega), pk_un (by omega), Nat.add_zero, pk_us]
    · rw [pk_un (by omega), pk_un (by omega), pk_us]
    · rw [pk_un (by omega), pk_us]
    · rw [pk_us]
/-- what the tape may change -/
def FrT (σ σ' : St) : Prop := (∀ k, k ≠ 1 → σ'.1 k = σ.1 k) ∧ (∀ r, r ≠ 9 → σ'.2.1 r = σ.2.1 r) ∧ σ'.2.2 = σ.2.2
def FmT (σ σ' : St) : Prop := (∀ k, k ≠ 1 → σ'.1 k = σ.1 k) ∧ (∀ r, r ≠ 1 → σ'.2.1 r = σ.2.1 r) ∧ σ'.2.2 = σ.2.2
theorem FrT.trans {a b c : St} (h : FrT a b) (k : FrT b c) : FrT a c := ⟨fun i h1 => (k.1 i h1).trans (h.1 i h1), fun i hi => (k.2.1 i hi).trans (h.2.1 i hi), k.2.2.trans h.2.2⟩
theorem FmT.trans {a b c : St} (h : FmT a b) (k : FmT b c) : FmT a c := ⟨fun i h1 => (k.1 i h1).trans (h.1 i h1), fun i hi => (k.2.1 i hi).trans (h.2.1 i hi), k.2.2.trans h.2.2⟩
def TpK (k : Nat) (σ τ : St) : Prop := σ.1 1 = nI k ∧ τ.1 1 = nI k ∧ ∀ i, i < k → σ.2.1 9 i = τ.2.1 1 i ∧ vp_nar .byte (σ.2.1 9 i) = σ.2.1 9 i
theorem put4 {F : Nat} (hF : 10 < F) {σ τ : St} {k : Nat} (T : TpK k σ τ) (hk : k + 4 ≤ 2000) (x : Int32) : ∃ σ' τ', f_X7_putBytes F σ x = some σ' ∧ f_X8_lays F τ x = some τ' ∧ TpK (k + 4) σ' τ' ∧ FrT σ σ' ∧ FmT τ τ' := by
  obtain ⟨t1, t2, t3⟩ := T
  obtain ⟨g, a1, a2, a3⟩ := d_put4 (F := F) hF t1 hk x
  obtain ⟨h, b1, b2, b3⟩ := t_lay4 (F := F) hF t2 hk x
  refine ⟨_, _, a1, b1, ⟨ss_same, ss_same, fun i hi => ?_⟩, ⟨fun k h => ss_ne h, fun r hr => by rw [ss_r, sw_ne hr], rfl⟩, ⟨fun k h => ss_ne h, fun r hr => by rw [ss_r, sw_ne hr], rfl⟩⟩
  rw [ss_r, ss_r, sw_at, sw_at]
  by_cases c : i < k
  · rw [a2 i c, b2 i c]; exact t3 i c
  · obtain ⟨j, rfl⟩ : ∃ j, i = k + j := ⟨i - k, by omega⟩
    rw [a3 j (by omega), b3 j (by omega)]
    refine ⟨rfl, ?_⟩
    rw [vp_nar_byte, vp_nar_byte, fb_byte_twice, fb_byte_twice]
theorem Inv.tape {σ τ σ' τ' : St} {ex : Nat → Bool} {β : Nat → St} (I : Inv σ τ ex β) {k : Nat} (hk : k ≤ 2000) (T : TpK k σ' τ') (f : FrT σ σ') (g : FmT τ τ') : Inv σ' τ' ex β := by
  obtain ⟨i1, i2, -, i4, i5, ⟨hl, l1, l2, l3⟩, i7⟩ := I
  have en : nw τ' = nw τ := g.2.1 19 (by omega)
  refine ⟨?_, ?_, ⟨k, hk, T⟩, ?_, ?_, ⟨hl, ?_, fun s hs => ?_, fun s hs q => ?_⟩, fun i hi => ?_⟩
  · unfold Core
    rw [en]
    exact ⟨i1.1, JJ_same i1.2 (fun k _ _ => f.1 k (by omega)) (fun r _ _ => f.2.1 r (by omega))⟩
  · unfold SB
    rw [f.1 32 (by omega), f.1 34 (by omega)]
    exact i2
  · rw [f.1 2 (by omega), g.1 10 (by omega)]; exact i4
  · rw [f.1 3 (by omega), en]; exact i5
  · rw [f.1 0 (by omega)]; exact l1
  · rw [g.2.1 22 (by omega)]; exact l2 s hs
  · obtain ⟨x1, x2, x3, x4⟩ := l3 s hs q
    have eh : hw τ' s = hw τ s := by unfold hw; rw [g.2.1 23 (by omega)]
    rw [eh, en]
    exact ⟨x1, x2, x3, x4⟩
  · rw [g.2.2]; exact i7 i hi
theorem op_feed {F : Nat} (hF : 10 < F) {σ τ : St} {ex : Nat → Bool} {β : Nat → St} (I : Inv σ τ ex β) (a b c d e : Int32) : ∃ r σ' τ', f_X7_feed F σ a b c d e = some (r, σ') ∧ f_X8_feed F τ a b c d e = some (r, τ') ∧ Inv σ' τ' ex β := by
  obtain ⟨k, k1, T⟩ := I.2.2.1
  have t1 := T.1
  have t2 := T.2.1
  unfold f_X7_feed f_X8_feed
  by_cases h : k + 20 ≤ 2000
  · obtain ⟨σ1, τ1, x1, y1, T1, f1, g1⟩ := put4 (F := F) hF T (by omega) a
    obtain ⟨σ2, τ2, x2, y2, T2, f2, g2⟩ := put4 (F := F) hF T1 (by omega) b
    obtain ⟨σ3, τ3, x3, y3, T3, f3, g3⟩ := put4 (F := F) hF T2 (by omega) c
    obtain ⟨σ4, τ4, x4, y4, T4, f4, g4⟩ := put4 (F := F) hF T3 (by omega) d
    obtain ⟨σ5, τ5, x5, y5, T5, f5, g5⟩ := put4 (F := F) hF T4 (by omega) e
    refine ⟨nI (k + 4 + 4 + 4 + 4 + 4), σ5, τ5, ?_, ?_, I.tape (by omega) T5 (f1.trans (f2.trans (f3.trans (f4.trans f5)))) (g1.trans (g2.trans (g3.trans (g4.trans g5))))⟩
    · simp (disch := omega) only [↓bnd_i, ↓cal_s, ↓cal_n, ↓cal2_s, ↓cal2_n, cal_s, cal2_s, ↓reduceIte, fa_lit, m1_lit, m2_lit, m1_lt, m2_lt, m1_eq, m2_eq, m1_le, m2_le, le_m1, le_m2, lt_m1, lt_m2, m12, m21, m1_m1, n_lt, n_le, n_eq, lt_t, lt_f, le_t, le_f, eq_t, eq_f, n_cl, inb_ok, n_add, pk_mul, pk_sub, n_rem, n_div, n_dec, n_mx, n_mn, eq_m1, eq_m2, ss_same, ss_ne, ss_r, ss_l, sr_f, sr_l, sr_same, sr_ne, sw_f, sw_l, sw_at, sw_ne, pk_us, pk_un, bI_t, bI_f, not_true_eq_false, not_false_eq_true, eq_self, and_true, true_and, and_false, false_and, or_true, true_or, or_false, false_or, decide_true, decide_false, Bool.false_eq_true, Bool.true_eq_false, ↓cal_w (x1), x1, ↓cal_w (x2), x2, ↓cal_w (x3), x3, ↓cal_w (x4), x4, ↓cal_w (x5), x5, t1, T5.1]
    · simp (disch := omega) only [↓bnd_i, ↓cal_s, ↓cal_n, ↓cal2_s, ↓cal2_n, cal_s, cal2_s, ↓reduceIte, fa_lit, m1_lit, m2_lit, m1_lt, m2_lt, m1_eq, m2_eq, m1_le, m2_le, le_m1, le_m2, lt_m1, lt_m2, m12, m21, m1_m1, n_lt, n_le, n_eq, lt_t, lt_f, le_t, le_f, eq_t, eq_f, n_cl, inb_ok, n_add, pk_mul, pk_sub, n_rem, n_div, n_dec, n_mx, n_mn, eq_m1, eq_m2, ss_same, ss_ne, ss_r, ss_l, sr_f, sr_l, sr_same, sr_ne, sw_f, sw_l, sw_at, sw_ne, pk_us, pk_un, bI_t, bI_f, not_true_eq_false, not_false_eq_true, eq_self, and_true, true_and, and_false, false_and, or_true, true_or, or_false, false_or, decide_true, decide_false, Bool.false_eq_true, Bool.true_eq_false, ↓cal_w (y1), y1, ↓cal_w (y2), y2, ↓cal_w (y3), y3, ↓cal_w (y4), y4, ↓cal_w (y5), y5, t2, T5.2.1]
  · refine ⟨m1, σ, τ, ?_, ?_, I⟩
    · simp (disch := omega) only [↓bnd_i, ↓cal_s, ↓cal_n, ↓cal2_s, ↓cal2_n, cal_s, cal2_s, ↓reduceIte, fa_lit, m1_lit, m2_lit, m1_lt, m2_lt, m1_eq, m2_eq, m1_le, m2_le, le_m1, le_m2, lt_m1, lt_m2, m12, m21, m1_m1, n_lt, n_le, n_eq, lt_t, lt_f, le_t, le_f, eq_t, eq_f, n_cl, inb_ok, n_add, pk_mul, pk_sub, n_rem, n_div, n_dec, n_mx, n_mn, eq_m1, eq_m2, ss_same, ss_ne, ss_r, ss_l, sr_f, sr_l, sr_same, sr_ne, sw_f, sw_l, sw_at, sw_ne, pk_us, pk_un, bI_t, bI_f, not_true_eq_false, not_false_eq_true, eq_self, and_true, true_and, and_false, false_and, or_true, true_or, or_false, false_or, decide_true, decide_false, Bool.false_eq_true, Bool.true_eq_false, t1]
    · simp (disch := omega) only [↓bnd_i, ↓cal_s, ↓cal_n, ↓cal2_s, ↓cal2_n, cal_s, cal2_s, ↓reduceIte, fa_lit, m1_lit, m2_lit, m1_lt, m2_lt, m1_eq, m2_eq, m1_le, m2_le, le_m1, le_m2, lt_m1, lt_m2, m12, m21, m1_m1, n_lt, n_le, n_eq, lt_t, lt_f, le_t, le_f, eq_t, eq_f, n_cl, inb_ok, n_add, pk_mul, pk_sub, n_rem, n_div, n_dec, n_mx, n_mn, eq_m1, eq_m2, ss_same, ss_ne, ss_r, ss_l, sr_f, sr_l, sr_same, sr_ne, sw_f, sw_l, sw_at, sw_ne, pk_us, pk_un, bI_t, bI_f, not_true_eq_false, not_false_eq_true, eq_self, and_true, true_and, and_false, false_and, or_true, true_or, or_false, false_or, decide_true, decide_false, Bool.false_eq_true, Bool.true_eq_false, t2]
theorem op_back {F : Nat} {σ τ : St} {ex : Nat → Bool} {β : Nat → St} (I : Inv σ τ ex β) (x : Int32) : ∃ r σ' τ', f_X7_back F σ x = some (r, σ') ∧ f_X8_back F τ x = some (r, τ') ∧ Inv σ' τ' ex β := by
  obtain ⟨k, k1, T⟩ := I.2.2.1
  have t1 := T.1
  have t2 := T.2.1
  unfold f_X7_back f_X8_back
  rcases n_ex x with hx | ⟨n, hn, rfl⟩
  · refine ⟨m1, σ, τ, ?_, ?_, I⟩
    · simp (disch := omega) only [↓bnd_i, ↓cal_s, ↓cal_n, ↓cal2_s, ↓cal2_n, cal_s, cal2_s, ↓reduceIte, fa_lit, m1_lit, m2_lit, m1_lt, m2_lt, m1_eq, m2_eq, m1_le, m2_le, le_m1, le_m2, lt_m1, lt_m2, m12, m21, m1_m1, n_lt, n_le, n_eq, lt_t, lt_f, le_t, le_f, eq_t, eq_f, n_cl, inb_ok, n_add, pk_mul, pk_sub, n_rem, n_div, n_dec, n_mx, n_mn, eq_m1, eq_m2, ss_same, ss_ne, ss_r, ss_l, sr_f, sr_l, sr_same, sr_ne, sw_f, sw_l, sw_at, sw_ne, pk_us, pk_un, bI_t, bI_f, not_true_eq_false, not_false_eq_true, eq_self, and_true, true_and, and_false, false_and, or_true, true_or, or_false, false_or, decide_true, decide_false, Bool.false_eq_true, Bool.true_eq_false, eq_true (show x < nI 0 from hx)]
    · simp (disch := omega) only [↓bnd_i, ↓cal_s, ↓cal_n, ↓cal2_s, ↓cal2_n, cal_s, cal2_s, ↓reduceIte, fa_lit, m1_lit, m2_lit, m1_lt, m2_lt, m1_eq, m2_eq, m1_le, m2_le, le_m1, le_m2, lt_m1, lt_m2, m12, m21, m1_m1, n_lt, n_le, n_eq, lt_t, lt_f, le_t, le_f, eq_t, eq_f, n_cl, inb_ok, n_add, pk_mul, pk_sub, n_rem, n_div, n_dec, n_mx, n_mn, eq_m1, eq_m2, ss_same, ss_ne, ss_r, ss_l, sr_f, sr_l, sr_same, sr_ne, sw_f, sw_l, sw_at, sw_ne, pk_us, pk_un, bI_t, bI_f, not_true_eq_false, not_false_eq_true, eq_self, and_true, true_and, and_false, false_and, or_true, true_or, or_false, false_or, decide_true, decide_false, Bool.false_eq_true, Bool.true_eq_false, eq_true (show x < nI 0 from hx)]
  · by_cases h : n ≤ k
    · refine ⟨nI (k - n), ss σ 1 (nI (k - n)), ss τ 1 (nI (k - n)), ?_, ?_, I.tape (k := k - n) (by omega) ⟨ss_same, ss_same, fun i hi => T.2.2 i (by omega)⟩ ⟨fun k h => ss_ne h, fun _ _ => rfl, rfl⟩ ⟨fun k h => ss_ne h, fun _ _ => rfl, rfl⟩⟩
      · simp (disch := omega) only [↓bnd_i, ↓cal_s, ↓cal_n, ↓cal2_s, ↓cal2_n, cal_s, cal2_s, ↓reduceIte, fa_lit, m1_lit, m2_lit, m1_lt, m2_lt, m1_eq, m2_eq, m1_le, m2_le, le_m1, le_m2, lt_m1, lt_m2, m12, m21, m1_m1, n_lt, n_le, n_eq, lt_t, lt_f, le_t, le_f, eq_t, eq_f, n_cl, inb_ok, n_add, pk_mul, pk_sub, n_rem, n_div, n_dec, n_mx, n_mn, eq_m1, eq_m2, ss_same, ss_ne, ss_r, ss_l, sr_f, sr_l, sr_same, sr_ne, sw_f, sw_l, sw_at, sw_ne, pk_us, pk_un, bI_t, bI_f, not_true_eq_false, not_false_eq_true, eq_self, and_true, true_and, and_false, false_and, or_true, true_or, or_false, false_or, decide_true, decide_false, Bool.false_eq_true, Bool.true_eq_false, t1]
      · simp (disch := omega) only [↓bnd_i, ↓cal_s, ↓cal_n, ↓cal2_s, ↓cal2_n, cal_s, cal2_s, ↓reduceIte, fa_lit, m1_lit, m2_lit, m1_lt, m2_lt, m1_eq, m2_eq, m1_le, m2_le, le_m1, le_m2, lt_m1, lt_m2, m12, m21, m1_m1, n_lt, n_le, n_eq, lt_t, lt_f, le_t, le_f, eq_t, eq_f, n_cl, inb_ok, n_add, pk_mul, pk_sub, n_rem, n_div, n_dec, n_mx, n_mn, eq_m1, eq_m2, ss_same, ss_ne, ss_r, ss_l, sr_f, sr_l, sr_same, sr_ne, sw_f, sw_l, sw_at, sw_ne, pk_us, pk_un, bI_t, bI_f, not_true_eq_false, not_false_eq_true, eq_self, and_true, true_and, and_false, false_and, or_true, true_or, or_false, false_or, decide_true, decide_false, Bool.false_eq_true, Bool.true_eq_false, t2]
    · refine ⟨m1, σ, τ, ?_, ?_, I⟩
      · simp (disch := omega) only [↓bnd_i, ↓cal_s, ↓cal_n, ↓cal2_s, ↓cal2_n, cal_s, cal2_s, ↓reduceIte, fa_lit, m1_lit, m2_lit, m1_lt, m2_lt, m1_eq, m2_eq, m1_le, m2_le, le_m1, le_m2, lt_m1, lt_m2, m12, m21, m1_m1, n_lt, n_le, n_eq, lt_t, lt_f, le_t, le_f, eq_t, eq_f, n_cl, inb_ok, n_add, pk_mul, pk_sub, n_rem, n_div, n_dec, n_mx, n_mn, eq_m1, eq_m2, ss_same, ss_ne, ss_r, ss_l, sr_f, sr_l, sr_same, sr_ne, sw_f, sw_l, sw_at, sw_ne, pk_us, pk_un, bI_t, bI_f, not_true_eq_false, not_false_eq_true, eq_self, and_true, true_and, and_false, false_and, or_true, true_or, or_false, false_or, decide_true, decide_false, Bool.false_eq_true, Bool.true_eq_false, t1]
      · simp (disch := omega) only [↓bnd_i, ↓cal_s, ↓cal_n, ↓cal2_s, ↓cal2_n, cal_s, cal2_s, ↓reduceIte, fa_lit, m1_lit, m2_lit, m1_lt, m2_lt, m1_eq, m2_eq, m1_le, m2_le, le_m1, le_m2, lt_m1, lt_m2, m12, m21, m1_m1, n_lt, n_le, n_eq, lt_t, lt_f, le_t, le_f, eq_t, eq_f, n_cl, inb_ok, n_add, pk_mul, pk_sub, n_rem, n_div, n_dec, n_mx, n_mn, eq_m1, eq_m2, ss_same, ss_ne, ss_r, ss_l, sr_f, sr_l, sr_same, sr_ne, sw_f, sw_l, sw_at, sw_ne, pk_us, pk_un, bI_t, bI_f, not_true_eq_false, not_false_eq_true, eq_self, and_true, true_and, and_false, false_and, or_true, true_or, or_false, false_or, decide_true, decide_false, Bool.false_eq_true, Bool.true_eq_false, t2]
/-! the slots -/
theorem hok_N (x : Int32) : hok x = isN x 3 := by
  unfold hok
  rcases n_ex x with hx | ⟨k, hk, rfl⟩
  · have e1 : isN x 3 = false := decide_eq_false (fun q => q.1 hx)
    rw [e1]
    exact decide_eq_false (fun q => q.1 hx)
  · rw [isN_n hk]
    exact decide_eq_decide.mpr ⟨fun q => by
      have := q.2
      rw [show (3 : Int32) = nI 3 from rfl, n_lt hk (by omega)] at this
      exact this, fun q => ⟨nI_pos hk, by rw [show (3 : Int32) = nI 3 from rfl, n_lt hk (by omega)]; exact q⟩⟩
theorem fit4 : ∀ s, s < 4 → fits .byte (.int (nI s)) = true := by decide +kernel
theorem fitBb_j {σ : St} {N : Nat → Int32} (j : JJ σ N) : fitBb σ = true := by
  unfold fitBb
  rw [Bool.and_eq_true, List.all_eq_true, List.all_eq_true]
  refine ⟨fun i hi => ?_, fun i hi => ?_⟩
  · obtain ⟨s, h1, h2⟩ := j.2.1.2.2.1 i (List.mem_range.mp hi)
    rw [h2]; exact fit4 s h1
  · obtain ⟨s, h1, h2⟩ := j.2.1.2.2.2 i (List.mem_range.mp hi)
    rw [h2]; exact fit4 s h1
theorem t_holdL {F : Nat} {s : Nat} (hs : s < 3) : ∀ (n k : Nat) (t : St), k ≤ 7164 → 7164 - k < n → f_X8_hold_20 F n t (nI s) (nI k) = some (nI 1, sw t 23 (fun i => if 7164 * s + k ≤ i ∧ i < 7164 * s + 7164 then t.2.1 19 (i - 7164 * s) else t.2.1 23 i)) := by
  intro n
  induction n with
  | zero => intro k t _ h; omega
  | succ n ih =>
    intro k t hk hn
    rw [f_X8_hold_20]
    by_cases c : k = 7164
    · have e : (fun i => if 7164 * s + k ≤ i ∧ i < 7164 * s + 7164 then t.2.1 19 (i - 7164 * s) else t.2.1 23 i) = t.2.1 23 := by
        funext i
        rw [if_neg (by omega)]
      rw [e, sw_self]
      simp (disch := omega) only [↓bnd_i, ↓cal_s, ↓cal_n, ↓cal2_s, ↓cal2_n, cal_s, cal2_s, ↓reduceIte, fa_lit, m1_lit, m2_lit, m1_lt, m2_lt, m1_eq, m2_eq, m1_le, m2_le, le_m1, le_m2, lt_m1, lt_m2, m12, m21, m1_m1, n_lt, n_le, n_eq, lt_t, lt_f, le_t, le_f, eq_t, eq_f, n_cl, inb_ok, n_add, pk_mul, pk_sub, n_rem, n_div, n_dec, n_mx, n_mn, eq_m1, eq_m2, ss_same, ss_ne, ss_r, ss_l, sr_f, sr_l, sr_same, sr_ne, sw_f, sw_l, sw_at, sw_ne, pk_us, pk_un, bI_t, bI_f, not_true_eq_false, not_false_eq_true, eq_self, and_true, true_and, and_false, false_and, or_true, true_or, or_false, false_or, decide_true, decide_false, Bool.false_eq_true, Bool.true_eq_false]
    · have ih' := ih (k + 1) (sr t 23 (7164 * s + k) (t.2.1 19 k)) (by omega) (by omega)
      simp (disch := omega) only [↓bnd_i, ↓cal_s, ↓cal_n, ↓cal2_s, ↓cal2_n, cal_s, cal2_s, ↓reduceIte, fa_lit, m1_lit, m2_lit, m1_lt, m2_lt, m1_eq, m2_eq, m1_le, m2_le, le_m1, le_m2, lt_m1, lt_m2, m12, m21, m1_m1, n_lt, n_le, n_eq, lt_t, lt_f, le_t, le_f, eq_t, eq_f, n_cl, inb_ok, n_add, pk_mul, pk_sub, n_rem, n_div, n_dec, n_mx, n_mn, eq_m1, eq_m2, ss_same, ss_ne, ss_r, ss_l, sr_f, sr_l, sr_same, sr_ne, sw_f, sw_l, sw_at, sw_ne, pk_us, pk_un, bI_t, bI_f, not_true_eq_false, not_false_eq_true, eq_self, and_true, true_and, and_false, false_and, or_true, true_or, or_false, false_or, decide_true, decide_false, Bool.false_eq_true, Bool.true_eq_false]
      rw [ih', sr_as, sw_sw]
      congr 3
      funext i
      rw [sw_at, sw_ne (by omega)]
      by_cases d : i = 7164 * s + k
      · subst d
        rw [if_neg (by omega), if_pos (by omega), pk_us, show 7164 * s + k - 7164 * s = k by omega]
      · rw [pk_un d]
        by_cases d2 : 7164 * s + k ≤ i ∧ i < 7164 * s + 7164
        · rw [if_pos d2, if_pos (by omega)]
        · rw [if_neg d2, if_neg (by omega)]
theorem t_againL {F : Nat} {s : Nat} (hs : s < 3) : ∀ (n k : Nat) (t : St), k ≤ 7164 → 7164 - k < n → f_X8_again_22 F n t (nI s) (nI k) = some (nI 1, sw t 19 (fun i => if k ≤ i ∧ i < 7164 then t.2.1 23 (7164 * s + i) else t.2.1 19 i)) := by
  intro n
  induction n with
  | zero => intro k t _ h; omega
  | succ n ih =>
    intro k t hk hn
    rw [f_X8_again_22]
    by_cases c : k = 7164
    · have e : (fun i => if k ≤ i ∧ i < 7164 then t.2.1 23 (7164 * s + i) else t.2.1 19 i) = t.2.1 19 := by
        funext i
        rw [if_neg (by omega)]
      rw [e, sw_self]
      simp (disch := omega) only [↓bnd_i, ↓cal_s, ↓cal_n, ↓cal2_s, ↓cal2_n, cal_s, cal2_s, ↓reduceIte, fa_lit, m1_lit, m2_lit, m1_lt, m2_lt, m1_eq, m2_eq, m1_le, m2_le, le_m1, le_m2, lt_m1, lt_m2, m12, m21, m1_m1, n_lt, n_le, n_eq, lt_t, lt_f, le_t, le_f, eq_t, eq_f, n_cl, inb_ok, n_add, pk_mul, pk_sub, n_rem, n_div, n_dec, n_mx, n_mn, eq_m1, eq_m2, ss_same, ss_ne, ss_r, ss_l, sr_f, sr_l, sr_same, sr_ne, sw_f, sw_l, sw_at, sw_ne, pk_us, pk_un, bI_t, bI_f, not_true_eq_false, not_false_eq_true, eq_self, and_true, true_and, and_false, false_and, or_true, true_or, or_false, false_or, decide_true, decide_false, Bool.false_eq_true, Bool.true_eq_false]
    · have ih' := ih (k + 1) (sr t 19 k (t.2.1 23 (7164 * s + k))) (by omega) (by omega)
      simp (disch := omega) only [↓bnd_i, ↓cal_s, ↓cal_n, ↓cal2_s, ↓cal2_n, cal_s, cal2_s, ↓reduceIte, fa_lit, m1_lit, m2_lit, m1_lt, m2_lt, m1_eq, m2_eq, m1_le, m2_le, le_m1, le_m2, lt_m1, lt_m2, m12, m21, m1_m1, n_lt, n_le, n_eq, lt_t, lt_f, le_t, le_f, eq_t, eq_f, n_cl, inb_ok, n_add, pk_mul, pk_sub, n_rem, n_div, n_dec, n_mx, n_mn, eq_m1, eq_m2, ss_same, ss_ne, ss_r, ss_l, sr_f, sr_l, sr_same, sr_ne, sw_f, sw_l, sw_at, sw_ne, pk_us, pk_un, bI_t, bI_f, not_true_eq_false, not_false_eq_true, eq_self, and_true, true_and, and_false, false_and, or_true, true_or, or_false, false_or, decide_true, decide_false, Bool.false_eq_true, Bool.true_eq_false]
      rw [ih', sr_as, sw_sw]
      congr 3
      funext i
      rw [sw_at, sw_ne (by omega)]
      by_cases d : i = k
      · subst d
        rw [if_neg (by omega), if_pos (by omega), pk_us]
      · rw [pk_un d]
        by_cases d2 : k ≤ i ∧ i < 7164
        · rw [if_pos d2, if_pos (by omega)]
        · rw [if_neg d2, if_neg (by omega)]
theorem narBo : vp_nar .boolean (nI 1) = nI 1 := by decide +kernel
theorem law_hold {F j : Nat} (hF : 8000 < F) {xs : Nat → Int32} {K : Kt} {σ τ : St} {ex : Nat → Bool} {β : Nat → St} (I : Inv σ τ ex β) (hK : ∀ σ' τ' ex' β', Inv σ' τ' ex' β' → K σ' τ' ex' β' = some 1) : fL_46 F j xs K σ τ ex β = some 1 := by
  unfold fL_46
  generalize xs (6 * j + 1) = x
  have I0 := I
  obtain ⟨i1, i2, i3, i4, i5, ⟨hl, l1, l2, l3⟩, i7⟩ := I
  rw [if_pos (fitBb_j i1.2)]
  have hin := in_isN (F := F) (τ := τ) (x := x) (n := 3) (by omega) (by omega)
  rw [pk_sub (by omega)] at hin
  have hk := hok_N x
  unfold f_X8_hold hS hX hB
  cases d : isN x 3
  · rw [d] at hin hk
    rw [hk]
    simp (disch := omega) only [↓bnd_i, ↓cal_s, ↓cal_n, ↓cal2_s, ↓cal2_n, cal_s, cal2_s, ↓reduceIte, fa_lit, m1_lit, m2_lit, m1_lt, m2_lt, m1_eq, m2_eq, m1_le, m2_le, le_m1, le_m2, lt_m1, lt_m2, m12, m21, m1_m1, n_lt, n_le, n_eq, lt_t, lt_f, le_t, le_f, eq_t, eq_f, n_cl, inb_ok, n_add, pk_mul, pk_sub, n_rem, n_div, n_dec, n_mx, n_mn, eq_m1, eq_m2, ss_same, ss_ne, ss_r, ss_l, sr_f, sr_l, sr_same, sr_ne, sw_f, sw_l, sw_at, sw_ne, pk_us, pk_un, bI_t, bI_f, not_true_eq_false, not_false_eq_true, eq_self, and_true, true_and, and_false, false_and, or_true, true_or, or_false, false_or, decide_true, decide_false, Bool.false_eq_true, Bool.true_eq_false, ↓cal_w (hin), hin]
    exact hK _ _ _ _ I0
  · rw [d] at hin hk
    rw [hk]
    obtain ⟨s, hs, rfl⟩ := isN_e d (by omega)
    have hL := t_holdL (F := F) hs F 0 (sr τ 22 s (nI 1)) (by omega) (by omega)
    generalize hg : (fun i => if 7164 * s + 0 ≤ i ∧ i < 7164 * s + 7164 then (sr τ 22 s (nI 1)).2.1 19 (i - 7164 * s) else (sr τ 22 s (nI 1)).2.1 23 i) = g at hL
    have nz : ¬ (nI 1 = nI 0) := by decide
    rw [show (0 : Int32) = nI 0 from rfl, show (2 : Int32) = nI 2 from rfl, cal_w (show f_X8_in F τ (nI s) (nI 0) (nI 2) = some (nI 1) from hin), if_neg nz, if_pos (inb_ok hs (by omega)), bnd_i, n_cl (by omega), show (1 : Int32) = nI 1 from rfl, narBo, cal2_w hL]
    simp only [if_true]
    refine hK _ _ _ _ ?_
    have e23 : ∀ i, g i = if 7164 * s ≤ i ∧ i < 7164 * s + 7164 then nw τ (i - 7164 * s) else τ.2.1 23 i := by
      intro i
      rw [← hg]
      simp only [Nat.add_zero]
      rw [sr_ne (by omega), sr_ne (by omega)]
    have en : nw (sw (sr τ 22 s (nI 1)) 23 g) = nw τ := by
      show (sw (sr τ 22 s (nI 1)) 23 g).2.1 19 = τ.2.1 19
      rw [sw_ne (by omega), sr_ne (by omega)]
    have hwS : ∀ k, k < 7164 → hw (sw (sr τ 22 s (nI 1)) 23 g) s k = nw τ k := by
      intro k hk
      unfold hw
      rw [sw_at, e23, if_pos (by omega), show 7164 * s + k - 7164 * s = k by omega]
    have hwO : ∀ s', s' < 3 → s' ≠ s → ∀ k, k < 7164 → hw (sw (sr τ 22 s (nI 1)) 23 g) s' k = hw τ s' k := by
      intro s' hs' hne k hk
      unfold hw
      rw [sw_at, e23, if_neg (by omega)]
    refine ⟨?_, ?_, ?_, ?_, ?_, ⟨fun i => hl i || decide (i = s), ?_, fun s' hs' => ?_, fun s' hs' q => ?_⟩, i7⟩
    · unfold Core
      rw [en]
      exact ⟨i1.1, JJ_same i1.2 (fun k _ _ => ss_ne (by omega)) (fun r _ _ => rfl)⟩
    · unfold SB
      rw [ss_ne (by omega), ss_ne (by omega)]
      exact i2
    · obtain ⟨k, k1, k2, k3, k4⟩ := i3
      refine ⟨k, k1, by rw [ss_ne (by omega)]; exact k2, k3, fun i hi => ?_⟩
      rw [ss_r, sw_ne (by omega), sr_ne (by omega)]
      exact k4 i hi
    · rw [ss_ne (by omega)]; exact i4
    · rw [ss_ne (by omega), en]; exact i5
    · rw [ss_same, l1, show (31 : Int32) = nI 31 from rfl, st_set (by omega) hs]
    · rw [sw_ne (by omega), sr_same]
      by_cases c : s' = s
      · rw [c, pk_us]; simp; rfl
      · rw [pk_un c, l2 s' hs']; simp [c]
    · rw [en]
      dsimp only
      by_cases c : s' = s
      · rw [c, if_pos rfl, if_pos rfl]
        refine ⟨rfl, NN_cong hwS i1.1, JJ_cong hwS i1.1 i1.2, hwS 6 (by omega)⟩
      · rw [if_neg c, if_neg c]
        have q' : hl s' = true := by simpa [c] using q
        obtain ⟨x1, x2, x3, x4⟩ := l3 s' hs' q'
        have ho := hwO s' hs' c
        exact ⟨x1, NN_cong ho x2, JJ_cong ho x2 x3, (ho 6 (by omega)).trans x4⟩
theorem cpA_f {σ σ1 : St} : (∀ k, 4 ≤ k → k ≤ 10 → (cpA σ σ1).1 k = σ1.1 k) ∧ (∀ k, k < 4 ∨ 10 < k → (cpA σ σ1).1 k = σ.1 k) ∧ (∀ r, 11 ≤ r → r ≤ 24 → (cpA σ σ1).2.1 r = σ1.2.1 r) ∧ (∀ r, r < 11 ∨ 24 < r → (cpA σ σ1).2.1 r = σ.2.1 r) := by
  unfold cpA cpC cpJ
  refine ⟨fun k h1 h2 => ?_, fun k h => ?_, fun r h1 h2 => ?_, fun r h => ?_⟩
  · rcases (show k = 4 ∨ k = 5 ∨ k = 6 ∨ k = 7 ∨ k = 8 ∨ k = 9 ∨ k = 10 by omega) with rfl | rfl | rfl | rfl | rfl | rfl | rfl <;> simp (disch := omega) only [↓bnd_i, ↓cal_s, ↓cal_n, ↓cal2_s, ↓cal2_n, cal_s, cal2_s, ↓reduceIte, fa_lit, m1_lit, m2_lit, m1_lt, m2_lt, m1_eq, m2_eq, m1_le, m2_le, le_m1, le_m2, lt_m1, lt_m2, m12, m21, m1_m1, n_lt, n_le, n_eq, lt_t, lt_f, le_t, le_f, eq_t, eq_f, n_cl, inb_ok, n_add, pk_mul, pk_sub, n_rem, n_div, n_dec, n_mx, n_mn, eq_m1, eq_m2, ss_same, ss_ne, ss_r, ss_l, sr_f, sr_l, sr_same, sr_ne, sw_f, sw_l, sw_at, sw_ne, pk_us, pk_un, bI_t, bI_f, not_true_eq_false, not_false_eq_true, eq_self, and_true, true_and, and_false, false_and, or_true, true_or, or_false, false_or, decide_true, decide_false, Bool.false_eq_true, Bool.true_eq_false]
  · simp (disch := omega) only [↓bnd_i, ↓cal_s, ↓cal_n, ↓cal2_s, ↓cal2_n, cal_s, cal2_s, ↓reduceIte, fa_lit, m1_lit, m2_lit, m1_lt, m2_lt, m1_eq, m2_eq, m1_le, m2_le, le_m1, le_m2, lt_m1, lt_m2, m12, m21, m1_m1, n_lt, n_le, n_eq, lt_t, lt_f, le_t, le_f, eq_t, eq_f, n_cl, inb_ok, n_add, pk_mul, pk_sub, n_rem, n_div, n_dec, n_mx, n_mn, eq_m1, eq_m2, ss_same, ss_ne, ss_r, ss_l, sr_f, sr_l, sr_same, sr_ne, sw_f, sw_l, sw_at, sw_ne, pk_us, pk_un, bI_t, bI_f, not_true_eq_false, not_false_eq_true, eq_self, and_true, true_and, and_false, false_and, or_true, true_or, or_false, false_or, decide_true, decide_false, Bool.false_eq_true, Bool.true_eq_false]
  · rcases (show r = 11 ∨ r = 12 ∨ r = 13 ∨ r = 14 ∨ r = 15 ∨ r = 16 ∨ r = 17 ∨ r = 18 ∨ r = 19 ∨ r = 20 ∨ r = 21 ∨ r = 22 ∨ r = 23 ∨ r = 24 by omega) with rfl | rfl | rfl | rfl | rfl | rfl | rfl | rfl | rfl | rfl | rfl | rfl | rfl | rfl <;> simp (disch := omega) only [↓bnd_i, ↓cal_s, ↓cal_n, ↓cal2_s, ↓cal2_n, cal_s, cal2_s, ↓reduceIte, fa_lit, m1_lit, m2_lit, m1_lt, m2_lt, m1_eq, m2_eq, m1_le, m2_le, le_m1, le_m2, lt_m1, lt_m2, m12, m21, m1_m1, n_lt, n_le, n_eq, lt_t, lt_f, le_t, le_f, eq_t, eq_f, n_cl, inb_ok, n_add, pk_mul, pk_sub, n_rem, n_div, n_dec, n_mx, n_mn, eq_m1, eq_m2, ss_same, ss_ne, ss_r, ss_l, sr_f, sr_l, sr_same, sr_ne, sw_f, sw_l, sw_at, sw_ne, pk_us, pk_un, bI_t, bI_f, not_true_eq_false, not_false_eq_true, eq_self, and_true, true_and, and_false, false_and, or_true, true_or, or_false, false_or, decide_true, decide_false, Bool.false_eq_true, Bool.true_eq_false]
  · simp (disch := omega) only [↓bnd_i, ↓cal_s, ↓cal_n, ↓cal2_s, ↓cal2_n, cal_s, cal2_s, ↓reduceIte, fa_lit, m1_lit, m2_lit, m1_lt, m2_lt, m1_eq, m2_eq, m1_le, m2_le, le_m1, le_m2, lt_m1, lt_m2, m12, m21, m1_m1, n_lt, n_le, n_eq, lt_t, lt_f, le_t, le_f, eq_t, eq_f, n_cl, inb_ok, n_add, pk_mul, pk_sub, n_rem, n_div, n_dec, n_mx, n_mn, eq_m1, eq_m2, ss_same, ss_ne, ss_r, ss_l, sr_f, sr_l, sr_same, sr_ne, sw_f, sw_l, sw_at, sw_ne, pk_us, pk_un, bI_t, bI_f, not_true_eq_false, not_false_eq_true, eq_self, and_true, true_and, and_false, false_and, or_true, true_or, or_false, false_or, decide_true, decide_false, Bool.false_eq_true, Bool.true_eq_false]
theorem law_again {F j : Nat} (hF : 8000 < F) {xs : Nat → Int32} {K : Kt} {σ τ : St} {ex : Nat → Bool} {β : Nat → St} (I : Inv σ τ ex β) (hK : ∀ σ' τ' ex' β', Inv σ' τ' ex' β' → K σ' τ' ex' β' = some 1) : fL_47 F j xs K σ τ ex β = some 1 := by
  unfold fL_47
  generalize xs (6 * j + 1) = x
  have I0 := I
  obtain ⟨i1, i2, i3, i4, i5, ⟨hl, l1, l2, l3⟩, i7⟩ := I
  have hin := in_isN (F := F) (τ := τ) (x := x) (n := 3) (by omega) (by omega)
  rw [pk_sub (by omega)] at hin
  have nz : ¬ (nI 1 = nI 0) := by decide
  cases d : isN x 3
  · rw [d] at hin
    have ha : aok σ ex x = false := by
      unfold aok
      refine decide_eq_false (fun q => ?_)
      have e := hok_N x
      rw [d] at e
      unfold hok at e
      exact (of_decide_eq_false e) ⟨q.1, q.2.1⟩
    unfold f_X8_again aS
    rw [ha]
    simp (disch := omega) only [↓bnd_i, ↓cal_s, ↓cal_n, ↓cal2_s, ↓cal2_n, cal_s, cal2_s, ↓reduceIte, fa_lit, m1_lit, m2_lit, m1_lt, m2_lt, m1_eq, m2_eq, m1_le, m2_le, le_m1, le_m2, lt_m1, lt_m2, m12, m21, m1_m1, n_lt, n_le, n_eq, lt_t, lt_f, le_t, le_f, eq_t, eq_f, n_cl, inb_ok, n_add, pk_mul, pk_sub, n_rem, n_div, n_dec, n_mx, n_mn, eq_m1, eq_m2, ss_same, ss_ne, ss_r, ss_l, sr_f, sr_l, sr_same, sr_ne, sw_f, sw_l, sw_at, sw_ne, pk_us, pk_un, bI_t, bI_f, not_true_eq_false, not_false_eq_true, eq_self, and_true, true_and, and_false, false_and, or_true, true_or, or_false, false_or, decide_true, decide_false, Bool.false_eq_true, Bool.true_eq_false, ↓cal_w (hin), hin, Bool.not_false, Bool.true_or]
    exact hK _ _ _ _ I0
  · rw [d] at hin
    obtain ⟨s, hs, rfl⟩ := isN_e d (by omega)
    have h22 := l2 s hs
    have tst : (σ.1 0 >>> (nI s &&& (31 : Int32))) &&& (1 : Int32) = bI (hl s) := by
      rw [l1]; exact st_tst (by omega) hs
    have hx3 : (nI s) < (3 : Int32) := by rw [show (3 : Int32) = nI 3 from rfl, n_lt (by omega) (by omega)]; exact hs
    cases q : hl s
    · rw [q] at h22 tst
      have ha : aok σ ex (nI s) = false := by
        unfold aok
        exact decide_eq_false (fun e => e.2.2.1 tst)
      unfold f_X8_again aS
      rw [ha]
      simp (disch := omega) only [↓bnd_i, ↓cal_s, ↓cal_n, ↓cal2_s, ↓cal2_n, cal_s, cal2_s, ↓reduceIte, fa_lit, m1_lit, m2_lit, m1_lt, m2_lt, m1_eq, m2_eq, m1_le, m2_le, le_m1, le_m2, lt_m1, lt_m2, m12, m21, m1_m1, n_lt, n_le, n_eq, lt_t, lt_f, le_t, le_f, eq_t, eq_f, n_cl, inb_ok, n_add, pk_mul, pk_sub, n_rem, n_div, n_dec, n_mx, n_mn, eq_m1, eq_m2, ss_same, ss_ne, ss_r, ss_l, sr_f, sr_l, sr_same, sr_ne, sw_f, sw_l, sw_at, sw_ne, pk_us, pk_un, bI_t, bI_f, not_true_eq_false, not_false_eq_true, eq_self, and_true, true_and, and_false, false_and, or_true, true_or, or_false, false_or, decide_true, decide_false, Bool.false_eq_true, Bool.true_eq_false, ↓cal_w (hin), hin, Bool.not_false, Bool.true_or, h22]
      exact hK _ _ _ _ I0
    · rw [q] at h22 tst
      obtain ⟨x1, x2, x3, x4⟩ := l3 s hs q
      have ha : aok σ ex (nI s) = true := by
        unfold aok
        refine decide_eq_true ⟨nI_pos (by omega), hx3, ?_, by rw [n_cl (by omega)]; exact x1⟩
        rw [tst]; exact nz
      have hL := t_againL (F := F) hs F 0 τ (by omega) (by omega)
      generalize hg : (fun i => if 0 ≤ i ∧ i < 7164 then τ.2.1 23 (7164 * s + i) else τ.2.1 19 i) = g at hL
      unfold f_X8_again aS
      rw [ha, n_cl (by omega), fitBb_j x3]
      rw [if_pos rfl, show (0 : Int32) = nI 0 from rfl, show (2 : Int32) = nI 2 from rfl, cal_w (show f_X8_in F τ (nI s) (nI 0) (nI 2) = some (nI 1) from hin), if_neg nz, if_pos (inb_ok hs (by omega)), h22, if_neg (show ¬ bI true = nI 0 from nz), cal2_w hL]
      simp only [if_true]
      rw [if_pos (show (1 : Int32) = nI 1 from rfl)]
      refine hK _ _ _ _ ?_
      have hgk : ∀ k, k < 7164 → g k = hw τ s k := by
        intro k hk
        rw [← hg]
        exact if_pos ⟨Nat.zero_le k, hk⟩
      have en : nw (sw τ 19 g) = g := sw_at
      obtain ⟨f1, f2, f3, f4⟩ := cpA_f (σ := σ) (σ1 := β s)
      refine ⟨?_, ?_, ?_, ?_, ?_, ⟨hl, ?_, fun s' hs' => ?_, fun s' hs' q' => ?_⟩, i7⟩
      · unfold Core
        rw [en]
        exact ⟨NN_cong hgk x2, JJ_same (JJ_cong hgk x2 x3) f1 f3⟩
      · unfold SB
        rw [f2 32 (by omega), f2 34 (by omega)]
        exact i2
      · obtain ⟨k, k1, k2, k3, k4⟩ := i3
        refine ⟨k, k1, by rw [f2 1 (by omega)]; exact k2, k3, fun i hi => ?_⟩
        rw [f4 9 (by omega), sw_ne (by omega)]
        exact k4 i hi
      · rw [f2 2 (by omega)]; exact i4
      · rw [f2 3 (by omega), en, hgk 6 (by omega), x4]; exact i5
      · rw [f2 0 (by omega)]; exact l1
      · rw [sw_ne (by omega)]; exact l2 s' hs'
      · obtain ⟨y1, y2, y3, y4⟩ := l3 s' hs' q'
        have eh : hw (sw τ 19 g) s' = hw τ s' := by unfold hw; rw [sw_ne (by omega)]
        rw [eh, en, hgk 6 (by omega), x4]
        exact ⟨y1, y2, y3, y4⟩
/-- what read must do -/
def RD (F : Nat) : Prop := ∀ (σ τ : St) (ex : Nat → Bool) (β : Nat → St), Inv σ τ ex β → ∃ r σ' τ', f_X7_read F σ = some (r, σ') ∧ f_X8_read F τ = some (r, τ') ∧ Inv σ' τ' ex β
