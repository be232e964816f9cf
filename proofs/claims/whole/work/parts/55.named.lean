/-! PURE: named -/
theorem cal_ex {α β : Type} {e : Option α} {k : α → Option β} {v : β} (h : cal e k = some v) : ∃ a, e = some a ∧ k a = some v := by
  cases e with
  | none => cases h
  | some a => exact ⟨a, rfl, h⟩
theorem co79_18 {F : Nat} : ∀ (n : Nat) (t : St) (x y z : Int32) (r : Int32) (t' : St), f_X8_comesOut__79 F n t x y z = some (r, t') → t'.1 18 = t.1 18 := by
  intro n
  induction n with
  | zero => intro t x y z r t' h; rw [f_X8_comesOut__79] at h; cases h
  | succ n ih =>
    intro t x y z r t' h
    rw [f_X8_comesOut__79] at h
    obtain ⟨r1, -, h⟩ := cal_ex h
    split at h
    · cases h; rfl
    · obtain ⟨r3, -, h⟩ := cal_ex h
      simp only [bnd_i] at h
      obtain ⟨r6, -, h⟩ := cal_ex h
      split at h
      · cases h
        rw [ss_ne (by omega), ss_ne (by omega)]
      · obtain ⟨r8, -, h⟩ := cal_ex h
        split at h
        · cases h
          rw [ss_ne (by omega), ss_ne (by omega)]
        · rw [ih _ _ _ _ _ _ h, ss_ne (by omega), ss_ne (by omega)]
theorem co_18 {F : Nat} {t : St} {x y z r : Int32} {t' : St} (h : f_X8_comesOut_ F t x y z = some (r, t')) : t'.1 18 = t.1 18 := by
  unfold f_X8_comesOut_ at h
  obtain ⟨r1, -, h⟩ := cal_ex h
  split at h
  · cases h; rfl
  obtain ⟨r3, -, h⟩ := cal_ex h
  split at h
  · cases h; rfl
  obtain ⟨r5, -, h⟩ := cal_ex h
  split at h
  · cases h; rfl
  obtain ⟨r7, -, h⟩ := cal_ex h
  split at h
  · obtain ⟨r9, -, h⟩ := cal_ex h
    split at h
    · obtain ⟨r11, -, h⟩ := cal_ex h
      simp only [bnd_i] at h
      split at h
      · obtain ⟨r14, -, h⟩ := cal_ex h
        rw [co79_18 _ _ _ _ _ _ _ h, ss_ne (by omega)]
      · cases h
        rw [ss_ne (by omega)]
    · cases h; rfl
  · cases h; rfl
/-- a text on the desk's side, on the model's -/
def Tx (σ : St) (n : Nat) (f : Nat → Nat) : Prop := σ.1 32 = nI 0 ∧ σ.1 34 = nI n ∧ n ≤ 16 ∧ ∀ i, i < n → σ.2.1 33 i = nI (f i)
def Tm (τ : St) (n : Nat) (f : Nat → Nat) : Prop := τ.1 18 = nI n ∧ n ≤ 16 ∧ ∀ i, i < n → τ.2.1 21 i = nI (f i)
def FrN (σ σ' : St) : Prop := (∀ k, k ≠ 33 → k ≠ 34 → σ'.1 k = σ.1 k) ∧ (∀ r, r ≠ 33 → σ'.2.1 r = σ.2.1 r) ∧ σ'.2.2 = σ.2.2
def FmN (σ σ' : St) : Prop := (∀ k, k ≠ 18 → σ'.1 k = σ.1 k) ∧ (∀ r, r ≠ 21 → σ'.2.1 r = σ.2.1 r) ∧ σ'.2.2 = σ.2.2
theorem FrN.trans {a b c : St} (h : FrN a b) (k : FrN b c) : FrN a c := ⟨fun i h1 h2 => (k.1 i h1 h2).trans (h.1 i h1 h2), fun i hi => (k.2.1 i hi).trans (h.2.1 i hi), k.2.2.trans h.2.2⟩
theorem FmN.trans {a b c : St} (h : FmN a b) (k : FmN b c) : FmN a c := ⟨fun i h1 => (k.1 i h1).trans (h.1 i h1), fun i hi => (k.2.1 i hi).trans (h.2.1 i hi), k.2.2.trans h.2.2⟩
def pt (f : Nat → Nat) (n c : Nat) : Nat → Nat := fun i => if i = n then c else f i
theorem sh16 : nI 16 >>> (nI 0 &&& nI 31) = nI 16 := by decide +kernel
theorem cap16 : ∀ a, a ≤ 16 → nI a - nI 16 ≤ nI 0 := by decide +kernel
theorem nrC : ∀ c, c < 128 → vp_nar .byte (Int8.toInt32 (Int32.toInt8 (nI c))) = nI c := by decide +kernel
theorem nrB : ∀ c, c < 128 → vp_nar .byte (nI c) = nI c := by decide +kernel
theorem chC : ∀ c, c < 128 → UInt32.toInt32 (Int32.toUInt32 ((nI c) &&& nI 255) % 65536) = nI c := by decide +kernel
theorem idCc : ∀ c, c < 128 → idC (nI c) = true := by decide +kernel
theorem d_app1 {F : Nat} {σ : St} {n : Nat} {f : Nat → Nat} (T : Tx σ n f) (hn : n < 16) {c : Nat} (hc : c < 128) : ∃ σ', f_J4_append_cf468 F σ (nI c) = some σ' ∧ Tx σ' (n + 1) (pt f n c) ∧ FrN σ σ' := by
  obtain ⟨h1, h2, h3, h4⟩ := T
  refine ⟨sr (ss σ 34 (nI (n + 1))) 33 n (nI c), ?_, ⟨?_, ?_, by omega, fun i hi => ?_⟩, ⟨fun k _ h => ss_ne h, fun r hr => sr_ne hr, rfl⟩⟩
  · unfold f_J4_append_cf468 f_J5_append_3fe6f f_J5_ensureCapacityInternal_d00df f_J5_isLatin1_aae02 f_J1_canEncode_fc78d
    simp (disch := omega) only [↓bnd_i, ↓cal_s, ↓cal_n, ↓cal2_s, ↓cal2_n, cal_s, cal2_s, ↓reduceIte, fa_lit, m1_lit, m2_lit, m1_lt, m2_lt, m1_eq, m2_eq, m1_le, m2_le, le_m1, le_m2, lt_m1, lt_m2, m12, m21, m1_m1, n_lt, n_le, n_eq, lt_t, lt_f, le_t, le_f, eq_t, eq_f, n_cl, inb_ok, n_add, pk_mul, pk_sub, n_rem, n_div, n_dec, n_mx, n_mn, eq_m1, eq_m2, ss_same, ss_ne, ss_r, ss_l, sr_f, sr_l, sr_same, sr_ne, sw_f, sw_l, sw_at, sw_ne, pk_us, pk_un, bI_t, bI_f, not_true_eq_false, not_false_eq_true, eq_self, and_true, true_and, and_false, false_and, or_true, true_or, or_false, false_or, decide_true, decide_false, Bool.false_eq_true, Bool.true_eq_false, h1, h2, sh16, eq_true (cap16 (n + 1) (by omega)), nrC c hc]
  · rw [sr_f, ss_ne (by omega)]; exact h1
  · rw [sr_f, ss_same]
  · rw [sr_same]
    unfold pt
    by_cases e : i = n
    · rw [e, pk_us, if_pos rfl]
    · rw [pk_un e, if_neg e]; exact h4 i (by omega)
theorem d_setLength {F : Nat} {σ : St} (S : SB σ) : ∃ σ', f_J4_setLength_d00df F σ (nI 0) = some σ' ∧ (∀ f, Tx σ' 0 f) ∧ FrN σ σ' := by
  obtain ⟨h1, k, hk, h2⟩ := S
  have c0 := cap16 0 (by omega)
  by_cases e : k = 0
  · refine ⟨ss σ 34 (nI 0), ?_, fun f => ⟨?_, ss_same, by omega, fun i hi => by omega⟩, ⟨fun k _ h => ss_ne h, fun r hr => rfl, rfl⟩⟩
    · unfold f_J4_setLength_d00df f_J5_setLength_d00df f_J5_ensureCapacityInternal_d00df
      simp (disch := omega) only [↓bnd_i, ↓cal_s, ↓cal_n, ↓cal2_s, ↓cal2_n, cal_s, cal2_s, ↓reduceIte, fa_lit, m1_lit, m2_lit, m1_lt, m2_lt, m1_eq, m2_eq, m1_le, m2_le, le_m1, le_m2, lt_m1, lt_m2, m12, m21, m1_m1, n_lt, n_le, n_eq, lt_t, lt_f, le_t, le_f, eq_t, eq_f, n_cl, inb_ok, n_add, pk_mul, pk_sub, n_rem, n_div, n_dec, n_mx, n_mn, eq_m1, eq_m2, ss_same, ss_ne, ss_r, ss_l, sr_f, sr_l, sr_same, sr_ne, sw_f, sw_l, sw_at, sw_ne, pk_us, pk_un, bI_t, bI_f, not_true_eq_false, not_false_eq_true, eq_self, and_true, true_and, and_false, false_and, or_true, true_or, or_false, false_or, decide_true, decide_false, Bool.false_eq_true, Bool.true_eq_false, h1, h2, sh16, eq_true c0]
    · rw [ss_ne (by omega)]; exact h1
  · refine ⟨ss (ss σ 33 (nI 1)) 34 (nI 0), ?_, fun f => ⟨?_, ss_same, by omega, fun i hi => by omega⟩, ⟨fun k h h' => by rw [ss_ne h', ss_ne h], fun r hr => rfl, rfl⟩⟩
    · unfold f_J4_setLength_d00df f_J5_setLength_d00df f_J5_ensureCapacityInternal_d00df
      simp (disch := omega) only [↓bnd_i, ↓cal_s, ↓cal_n, ↓cal2_s, ↓cal2_n, cal_s, cal2_s, ↓reduceIte, fa_lit, m1_lit, m2_lit, m1_lt, m2_lt, m1_eq, m2_eq, m1_le, m2_le, le_m1, le_m2, lt_m1, lt_m2, m12, m21, m1_m1, n_lt, n_le, n_eq, lt_t, lt_f, le_t, le_f, eq_t, eq_f, n_cl, inb_ok, n_add, pk_mul, pk_sub, n_rem, n_div, n_dec, n_mx, n_mn, eq_m1, eq_m2, ss_same, ss_ne, ss_r, ss_l, sr_f, sr_l, sr_same, sr_ne, sw_f, sw_l, sw_at, sw_ne, pk_us, pk_un, bI_t, bI_f, not_true_eq_false, not_false_eq_true, eq_self, and_true, true_and, and_false, false_and, or_true, true_or, or_false, false_or, decide_true, decide_false, Bool.false_eq_true, Bool.true_eq_false, h1, h2, sh16, eq_true c0]
    · rw [ss_ne (by omega), ss_ne (by omega)]; exact h1
theorem d_str {F : Nat} {σ : St} {f : Nat → Nat} (T : Tx σ 0 f) {i : Nat} (hi : 2 ≤ i ∧ i ≤ 5) {g : Nat → Nat} (hg : ∀ j, j < lenS.getD i 0 → (bytS.getD i []).getD j 0 = nI (g j)) : ∃ σ', f_J4_append_15ec4 F i σ = some σ' ∧ Tx σ' (lenS.getD i 0) g ∧ FrN σ σ' := by
  obtain ⟨h1, h2, h3, h4⟩ := T
  have hl : lenS.getD i 0 ≤ 16 := by
    rcases (show i = 2 ∨ i = 3 ∨ i = 4 ∨ i = 5 by omega) with rfl | rfl | rfl | rfl <;> decide
  have hb : idB (nI 0) = true := by decide +kernel
  generalize hm : lenS.getD i 0 = m at *
  have c0 := cap16 m hl
  have z1 : ∀ m, m ≤ 16 → (nI m >>> (nI 0 &&& nI 31)) = nI m := by decide +kernel
  have z2 : (nI 0 <<< (nI 0 &&& nI 31)) = nI 0 := by decide +kernel
  refine ⟨ss (sw σ 33 (va_cpy (fun j => (bytS.getD i []).getD j 0) (σ.2.1 33) 0 0 m)) 34 (nI m), ?_, ⟨?_, ss_same, hl, fun j hj => ?_⟩, ⟨fun k _ h => ss_ne h, fun r hr => sw_ne hr, rfl⟩⟩
  · unfold f_J4_append_15ec4 f_J5_append_cf1ce f_J5_ensureCapacityInternal_d00df f_J5_putStringAt_47b60 f_J5_inflateIfNeededFor_a7421 f_J0_getBytes_840e7 f_J0_length_8abf5 f_J0_coder_7d493
    simp (disch := omega) only [↓bnd_i, ↓cal_s, ↓cal_n, ↓cal2_s, ↓cal2_n, cal_s, cal2_s, ↓reduceIte, fa_lit, m1_lit, m2_lit, m1_lt, m2_lt, m1_eq, m2_eq, m1_le, m2_le, le_m1, le_m2, lt_m1, lt_m2, m12, m21, m1_m1, n_lt, n_le, n_eq, lt_t, lt_f, le_t, le_f, eq_t, eq_f, n_cl, inb_ok, n_add, pk_mul, pk_sub, n_rem, n_div, n_dec, n_mx, n_mn, eq_m1, eq_m2, ss_same, ss_ne, ss_r, ss_l, sr_f, sr_l, sr_same, sr_ne, sw_f, sw_l, sw_at, sw_ne, pk_us, pk_un, bI_t, bI_f, not_true_eq_false, not_false_eq_true, eq_self, and_true, true_and, and_false, false_and, or_true, true_or, or_false, false_or, decide_true, decide_false, Bool.false_eq_true, Bool.true_eq_false, hm, show Int32.ofNat m = nI m from rfl, h1, h2, sh16, z1 m hl, z2, hb, Nat.zero_add, eq_true c0]
  · rw [ss_ne (by omega)]; exact h1
  · rw [ss_r, sw_at]
    unfold va_cpy
    rw [if_pos ⟨Nat.zero_le j, by omega⟩, Nat.zero_add, Nat.sub_zero]
    exact hg j hj
def nmR (x : Int32) (n : Nat) (g : Nat → Nat) : Int32 := if isN x n then nI (g x.toNatClampNeg) else m1
theorem d_named154 {F : Nat} {σ : St} {n : Nat} {g : Nat → Nat} (T : Tx σ n g) (hg : ∀ i, i < n → g i < 128) (x : Int32) : f_X7_named_154 F σ x = some (nmR x n g, σ) := by
  obtain ⟨h1, h2, h3, h4⟩ := T
  unfold f_X7_named_154 nmR
  rcases n_ex x with hx | ⟨k, hk, rfl⟩
  · rw [show isN x n = false by unfold isN; rw [decide_eq_false (fun q => q.1 hx)]]
    simp (disch := omega) only [↓bnd_i, ↓cal_s, ↓cal_n, ↓cal2_s, ↓cal2_n, cal_s, cal2_s, ↓reduceIte, fa_lit, m1_lit, m2_lit, m1_lt, m2_lt, m1_eq, m2_eq, m1_le, m2_le, le_m1, le_m2, lt_m1, lt_m2, m12, m21, m1_m1, n_lt, n_le, n_eq, lt_t, lt_f, le_t, le_f, eq_t, eq_f, n_cl, inb_ok, n_add, pk_mul, pk_sub, n_rem, n_div, n_dec, n_mx, n_mn, eq_m1, eq_m2, ss_same, ss_ne, ss_r, ss_l, sr_f, sr_l, sr_same, sr_ne, sw_f, sw_l, sw_at, sw_ne, pk_us, pk_un, bI_t, bI_f, not_true_eq_false, not_false_eq_true, eq_self, and_true, true_and, and_false, false_and, or_true, true_or, or_false, false_or, decide_true, decide_false, Bool.false_eq_true, Bool.true_eq_false, eq_true (show x < nI 0 from hx)]
  · rw [isN_n hk]
    unfold f_J4_length_8abf5 f_J5_length_8abf5 f_J4_charAt_5068e f_J5_charAt_5068e f_J0_checkIndex_df160
    by_cases e : k < n
    · have hc := hg k e
      have h5 := h4 k e
      rw [decide_eq_true e, n_cl hk]
      simp (disch := omega) only [↓bnd_i, ↓cal_s, ↓cal_n, ↓cal2_s, ↓cal2_n, cal_s, cal2_s, ↓reduceIte, fa_lit, m1_lit, m2_lit, m1_lt, m2_lt, m1_eq, m2_eq, m1_le, m2_le, le_m1, le_m2, lt_m1, lt_m2, m12, m21, m1_m1, n_lt, n_le, n_eq, lt_t, lt_f, le_t, le_f, eq_t, eq_f, n_cl, inb_ok, n_add, pk_mul, pk_sub, n_rem, n_div, n_dec, n_mx, n_mn, eq_m1, eq_m2, ss_same, ss_ne, ss_r, ss_l, sr_f, sr_l, sr_same, sr_ne, sw_f, sw_l, sw_at, sw_ne, pk_us, pk_un, bI_t, bI_f, not_true_eq_false, not_false_eq_true, eq_self, and_true, true_and, and_false, false_and, or_true, true_or, or_false, false_or, decide_true, decide_false, Bool.false_eq_true, Bool.true_eq_false, h1, h2, sh16, Nat.min_eq_left h3, h5, chC _ hc, idCc _ hc]
    · rw [decide_eq_false e]
      simp (disch := omega) only [↓bnd_i, ↓cal_s, ↓cal_n, ↓cal2_s, ↓cal2_n, cal_s, cal2_s, ↓reduceIte, fa_lit, m1_lit, m2_lit, m1_lt, m2_lt, m1_eq, m2_eq, m1_le, m2_le, le_m1, le_m2, lt_m1, lt_m2, m12, m21, m1_m1, n_lt, n_le, n_eq, lt_t, lt_f, le_t, le_f, eq_t, eq_f, n_cl, inb_ok, n_add, pk_mul, pk_sub, n_rem, n_div, n_dec, n_mx, n_mn, eq_m1, eq_m2, ss_same, ss_ne, ss_r, ss_l, sr_f, sr_l, sr_same, sr_ne, sw_f, sw_l, sw_at, sw_ne, pk_us, pk_un, bI_t, bI_f, not_true_eq_false, not_false_eq_true, eq_self, and_true, true_and, and_false, false_and, or_true, true_or, or_false, false_or, decide_true, decide_false, Bool.false_eq_true, Bool.true_eq_false, h2]
theorem t_says {F : Nat} {τ : St} {n : Nat} {f : Nat → Nat} (T : Tm τ n f) (hn : n < 16) (c : Nat) : ∃ τ', f_X8_says F τ (nI c) = some τ' ∧ Tm τ' (n + 1) (pt f n c) ∧ FmN τ τ' := by
  obtain ⟨h1, h2, h3⟩ := T
  refine ⟨ss (sr τ 21 n (nI c)) 18 (nI (n + 1)), ?_, ⟨ss_same, by omega, fun i hi => ?_⟩, ⟨fun k h => ss_ne h, fun r hr => sr_ne hr, rfl⟩⟩
  · unfold f_X8_says
    simp (disch := omega) only [↓bnd_i, ↓cal_s, ↓cal_n, ↓cal2_s, ↓cal2_n, cal_s, cal2_s, ↓reduceIte, fa_lit, m1_lit, m2_lit, m1_lt, m2_lt, m1_eq, m2_eq, m1_le, m2_le, le_m1, le_m2, lt_m1, lt_m2, m12, m21, m1_m1, n_lt, n_le, n_eq, lt_t, lt_f, le_t, le_f, eq_t, eq_f, n_cl, inb_ok, n_add, pk_mul, pk_sub, n_rem, n_div, n_dec, n_mx, n_mn, eq_m1, eq_m2, ss_same, ss_ne, ss_r, ss_l, sr_f, sr_l, sr_same, sr_ne, sw_f, sw_l, sw_at, sw_ne, pk_us, pk_un, bI_t, bI_f, not_true_eq_false, not_false_eq_true, eq_self, and_true, true_and, and_false, false_and, or_true, true_or, or_false, false_or, decide_true, decide_false, Bool.false_eq_true, Bool.true_eq_false, h1]
  · rw [ss_r, sr_same]
    unfold pt
    by_cases e : i = n
    · rw [e, pk_us, if_pos rfl]
    · rw [pk_un e, if_neg e]; exact h3 i (by omega)
def dgN (v : Nat) : Nat := if v ≤ 9 then 1 else if v ≤ 99 then 2 else 3
def dgP (f : Nat → Nat) (n v : Nat) : Nat → Nat := if v ≤ 9 then pt f n (48 + v % 10) else if v ≤ 99 then pt (pt f n (48 + v / 10 % 10)) (n + 1) (48 + v % 10) else pt (pt (pt f n (48 + v / 100)) (n + 1) (48 + v / 10 % 10)) (n + 2) (48 + v % 10)
theorem t_saysInt {F : Nat} {τ : St} {n : Nat} {f : Nat → Nat} (T : Tm τ n f) (hn : n < 13) {v : Nat} (hv : v < 120) : ∃ τ', f_X8_saysInt F τ (nI v) = some τ' ∧ Tm τ' (n + dgN v) (dgP f n v) ∧ FmN τ τ' := by
  have m0 := Nat.mod_lt v (show 0 < 10 by omega)
  unfold f_X8_saysInt f_X8_saysInt_17 dgN dgP
  by_cases v9 : v ≤ 9
  · obtain ⟨a, a1, a2, a3⟩ := t_says (F := F) T (by omega) (48 + v % 10)
    refine ⟨a, ?_, ?_, a3⟩
    · simp (disch := omega) only [↓bnd_i, ↓cal_s, ↓cal_n, ↓cal2_s, ↓cal2_n, cal_s, cal2_s, ↓reduceIte, fa_lit, m1_lit, m2_lit, m1_lt, m2_lt, m1_eq, m2_eq, m1_le, m2_le, le_m1, le_m2, lt_m1, lt_m2, m12, m21, m1_m1, n_lt, n_le, n_eq, lt_t, lt_f, le_t, le_f, eq_t, eq_f, n_cl, inb_ok, n_add, pk_mul, pk_sub, n_rem, n_div, n_dec, n_mx, n_mn, eq_m1, eq_m2, ss_same, ss_ne, ss_r, ss_l, sr_f, sr_l, sr_same, sr_ne, sw_f, sw_l, sw_at, sw_ne, pk_us, pk_un, bI_t, bI_f, not_true_eq_false, not_false_eq_true, eq_self, and_true, true_and, and_false, false_and, or_true, true_or, or_false, false_or, decide_true, decide_false, Bool.false_eq_true, Bool.true_eq_false, ↓cal_w (a1), a1, show v - v / 10 * 10 = v % 10 by omega]
    · rw [if_pos v9, if_pos v9]; exact a2
  · have m1' := Nat.mod_lt (v / 10) (show 0 < 10 by omega)
    by_cases v99 : v ≤ 99
    · obtain ⟨a, a1, a2, a3⟩ := t_says (F := F) T (by omega) (48 + v / 10 % 10)
      obtain ⟨b, b1, b2, b3⟩ := t_says (F := F) a2 (by omega) (48 + v % 10)
      refine ⟨b, ?_, ?_, a3.trans b3⟩
      · simp (disch := omega) only [↓bnd_i, ↓cal_s, ↓cal_n, ↓cal2_s, ↓cal2_n, cal_s, cal2_s, ↓reduceIte, fa_lit, m1_lit, m2_lit, m1_lt, m2_lt, m1_eq, m2_eq, m1_le, m2_le, le_m1, le_m2, lt_m1, lt_m2, m12, m21, m1_m1, n_lt, n_le, n_eq, lt_t, lt_f, le_t, le_f, eq_t, eq_f, n_cl, inb_ok, n_add, pk_mul, pk_sub, n_rem, n_div, n_dec, n_mx, n_mn, eq_m1, eq_m2, ss_same, ss_ne, ss_r, ss_l, sr_f, sr_l, sr_same, sr_ne, sw_f, sw_l, sw_at, sw_ne, pk_us, pk_un, bI_t, bI_f, not_true_eq_false, not_false_eq_true, eq_self, and_true, true_and, and_false, false_and, or_true, true_or, or_false, false_or, decide_true, decide_false, Bool.false_eq_true, Bool.true_eq_false, ↓cal_w (a1), a1, ↓cal_w (b1), b1, show v - v / 10 * 10 = v % 10 by omega, show v / 10 - v / 10 / 10 * 10 = v / 10 % 10 by omega]
      · rw [if_neg v9, if_pos v99, if_neg v9, if_pos v99]; exact b2
    · obtain ⟨o, o1, o2, o3⟩ := t_says (F := F) T (by omega) (48 + v / 100)
      obtain ⟨a, a1, a2, a3⟩ := t_says (F := F) o2 (by omega) (48 + v / 10 % 10)
      obtain ⟨b, b1, b2, b3⟩ := t_says (F := F) a2 (by omega) (48 + v % 10)
      refine ⟨b, ?_, ?_, o3.trans (a3.trans b3)⟩
      · simp (disch := omega) only [↓bnd_i, ↓cal_s, ↓cal_n, ↓cal2_s, ↓cal2_n, cal_s, cal2_s, ↓reduceIte, fa_lit, m1_lit, m2_lit, m1_lt, m2_lt, m1_eq, m2_eq, m1_le, m2_le, le_m1, le_m2, lt_m1, lt_m2, m12, m21, m1_m1, n_lt, n_le, n_eq, lt_t, lt_f, le_t, le_f, eq_t, eq_f, n_cl, inb_ok, n_add, pk_mul, pk_sub, n_rem, n_div, n_dec, n_mx, n_mn, eq_m1, eq_m2, ss_same, ss_ne, ss_r, ss_l, sr_f, sr_l, sr_same, sr_ne, sw_f, sw_l, sw_at, sw_ne, pk_us, pk_un, bI_t, bI_f, not_true_eq_false, not_false_eq_true, eq_self, and_true, true_and, and_false, false_and, or_true, true_or, or_false, false_or, decide_true, decide_false, Bool.false_eq_true, Bool.true_eq_false, ↓cal_w (o1), o1, ↓cal_w (a1), a1, ↓cal_w (b1), b1, show v - v / 10 * 10 = v % 10 by omega, show v / 10 - v / 10 / 10 * 10 = v / 10 % 10 by omega]
      · rw [if_neg v9, if_neg v99, if_neg v9, if_neg v99]; exact b2
theorem ng10 : ∀ v, v < 120 → decide (-nI v ≤ -nI 10) = decide (10 ≤ v) := by decide +kernel
theorem ng100 : ∀ v, v < 120 → decide (-nI v ≤ -nI 100) = decide (100 ≤ v) := by decide +kernel
theorem ng1000 : ∀ v, v < 120 → decide (-nI v ≤ -nI 1000) = false := by decide +kernel
theorem ngl : ∀ v, v < 120 → decide (-nI 100 < -nI v) = decide (v < 100) := by decide +kernel
theorem ng9 : ∀ v, v < 120 → decide (-nI 9 ≤ -nI v) = decide (v ≤ 9) := by decide +kernel
theorem ngd : ∀ v, v < 120 → 100 ≤ v → -nI v / nI 100 = -nI 1 ∧ (-nI v / nI 100) * nI 100 - -nI v = nI (v - 100) := by decide +kernel
theorem pr_t {p : Prop} [Decidable p] {b : Bool} (h : decide p = b) (hb : b = true) : p = True := by rw [hb] at h; exact eq_true (of_decide_eq_true h)
theorem pr_f {p : Prop} [Decidable p] {b : Bool} (h : decide p = b) (hb : b = false) : p = False := by rw [hb] at h; exact eq_false (of_decide_eq_false h)
theorem n10_10 : nI 10 * -nI 10 = -nI 100 := by decide +kernel
theorem n10_100 : nI 10 * -nI 100 = -nI 1000 := by decide +kernel
theorem d_stringSize {F : Nat} (hF : 10 < F) {σ : St} {v : Nat} (hv : v < 120) : f_J6_stringSize_0f7a4 F σ (nI v) = some (nI (dgN v)) := by
  obtain ⟨n, rfl⟩ : ∃ n, F = n + 3 := ⟨F - 3, by omega⟩
  unfold f_J6_stringSize_0f7a4 f_J6_stringSize_0f7a4_11 dgN
  simp (disch := omega) only [↓bnd_i, ↓cal_s, ↓cal_n, ↓cal2_s, ↓cal2_n, cal_s, cal2_s, ↓reduceIte, fa_lit, m1_lit, m2_lit, m1_lt, m2_lt, m1_eq, m2_eq, m1_le, m2_le, le_m1, le_m2, lt_m1, lt_m2, m12, m21, m1_m1, n_lt, n_le, n_eq, lt_t, lt_f, le_t, le_f, eq_t, eq_f, n_cl, inb_ok, n_add, pk_mul, pk_sub, n_rem, n_div, n_dec, n_mx, n_mn, eq_m1, eq_m2, ss_same, ss_ne, ss_r, ss_l, sr_f, sr_l, sr_same, sr_ne, sw_f, sw_l, sw_at, sw_ne, pk_us, pk_un, bI_t, bI_f, not_true_eq_false, not_false_eq_true, eq_self, and_true, true_and, and_false, false_and, or_true, true_or, or_false, false_or, decide_true, decide_false, Bool.false_eq_true, Bool.true_eq_false]
  rw [f_J6_stringSize_0f7a4_16]
  by_cases v9 : v ≤ 9
  · simp (disch := omega) only [↓bnd_i, ↓cal_s, ↓cal_n, ↓cal2_s, ↓cal2_n, cal_s, cal2_s, ↓reduceIte, fa_lit, m1_lit, m2_lit, m1_lt, m2_lt, m1_eq, m2_eq, m1_le, m2_le, le_m1, le_m2, lt_m1, lt_m2, m12, m21, m1_m1, n_lt, n_le, n_eq, lt_t, lt_f, le_t, le_f, eq_t, eq_f, n_cl, inb_ok, n_add, pk_mul, pk_sub, n_rem, n_div, n_dec, n_mx, n_mn, eq_m1, eq_m2, ss_same, ss_ne, ss_r, ss_l, sr_f, sr_l, sr_same, sr_ne, sw_f, sw_l, sw_at, sw_ne, pk_us, pk_un, bI_t, bI_f, not_true_eq_false, not_false_eq_true, eq_self, and_true, true_and, and_false, false_and, or_true, true_or, or_false, false_or, decide_true, decide_false, Bool.false_eq_true, Bool.true_eq_false, pr_f (ng10 v hv) (decide_eq_false (by omega)), Nat.add_zero]
  · simp (disch := omega) only [↓bnd_i, ↓cal_s, ↓cal_n, ↓cal2_s, ↓cal2_n, cal_s, cal2_s, ↓reduceIte, fa_lit, m1_lit, m2_lit, m1_lt, m2_lt, m1_eq, m2_eq, m1_le, m2_le, le_m1, le_m2, lt_m1, lt_m2, m12, m21, m1_m1, n_lt, n_le, n_eq, lt_t, lt_f, le_t, le_f, eq_t, eq_f, n_cl, inb_ok, n_add, pk_mul, pk_sub, n_rem, n_div, n_dec, n_mx, n_mn, eq_m1, eq_m2, ss_same, ss_ne, ss_r, ss_l, sr_f, sr_l, sr_same, sr_ne, sw_f, sw_l, sw_at, sw_ne, pk_us, pk_un, bI_t, bI_f, not_true_eq_false, not_false_eq_true, eq_self, and_true, true_and, and_false, false_and, or_true, true_or, or_false, false_or, decide_true, decide_false, Bool.false_eq_true, Bool.true_eq_false, pr_t (ng10 v hv) (decide_eq_true (by omega)), n10_10]
    rw [f_J6_stringSize_0f7a4_16]
    by_cases v99 : v ≤ 99
    · simp (disch := omega) only [↓bnd_i, ↓cal_s, ↓cal_n, ↓cal2_s, ↓cal2_n, cal_s, cal2_s, ↓reduceIte, fa_lit, m1_lit, m2_lit, m1_lt, m2_lt, m1_eq, m2_eq, m1_le, m2_le, le_m1, le_m2, lt_m1, lt_m2, m12, m21, m1_m1, n_lt, n_le, n_eq, lt_t, lt_f, le_t, le_f, eq_t, eq_f, n_cl, inb_ok, n_add, pk_mul, pk_sub, n_rem, n_div, n_dec, n_mx, n_mn, eq_m1, eq_m2, ss_same, ss_ne, ss_r, ss_l, sr_f, sr_l, sr_same, sr_ne, sw_f, sw_l, sw_at, sw_ne, pk_us, pk_un, bI_t, bI_f, not_true_eq_false, not_false_eq_true, eq_self, and_true, true_and, and_false, false_and, or_true, true_or, or_false, false_or, decide_true, decide_false, Bool.false_eq_true, Bool.true_eq_false, pr_f (ng100 v hv) (decide_eq_false (by omega)), Nat.add_zero]
    · simp (disch := omega) only [↓bnd_i, ↓cal_s, ↓cal_n, ↓cal2_s, ↓cal2_n, cal_s, cal2_s, ↓reduceIte, fa_lit, m1_lit, m2_lit, m1_lt, m2_lt, m1_eq, m2_eq, m1_le, m2_le, le_m1, le_m2, lt_m1, lt_m2, m12, m21, m1_m1, n_lt, n_le, n_eq, lt_t, lt_f, le_t, le_f, eq_t, eq_f, n_cl, inb_ok, n_add, pk_mul, pk_sub, n_rem, n_div, n_dec, n_mx, n_mn, eq_m1, eq_m2, ss_same, ss_ne, ss_r, ss_l, sr_f, sr_l, sr_same, sr_ne, sw_f, sw_l, sw_at, sw_ne, pk_us, pk_un, bI_t, bI_f, not_true_eq_false, not_false_eq_true, eq_self, and_true, true_and, and_false, false_and, or_true, true_or, or_false, false_or, decide_true, decide_false, Bool.false_eq_true, Bool.true_eq_false, pr_t (ng100 v hv) (decide_eq_true (by omega)), n10_100]
      rw [f_J6_stringSize_0f7a4_16]
      simp (disch := omega) only [↓bnd_i, ↓cal_s, ↓cal_n, ↓cal2_s, ↓cal2_n, cal_s, cal2_s, ↓reduceIte, fa_lit, m1_lit, m2_lit, m1_lt, m2_lt, m1_eq, m2_eq, m1_le, m2_le, le_m1, le_m2, lt_m1, lt_m2, m12, m21, m1_m1, n_lt, n_le, n_eq, lt_t, lt_f, le_t, le_f, eq_t, eq_f, n_cl, inb_ok, n_add, pk_mul, pk_sub, n_rem, n_div, n_dec, n_mx, n_mn, eq_m1, eq_m2, ss_same, ss_ne, ss_r, ss_l, sr_f, sr_l, sr_same, sr_ne, sw_f, sw_l, sw_at, sw_ne, pk_us, pk_un, bI_t, bI_f, not_true_eq_false, not_false_eq_true, eq_self, and_true, true_and, and_false, false_and, or_true, true_or, or_false, false_or, decide_true, decide_false, Bool.false_eq_true, Bool.true_eq_false, pr_f (ng1000 v hv) rfl, Nat.add_zero]
theorem dgO_b {k : Nat} : digO k = nI (48 + k % 10) := rfl
theorem dgT_b {k : Nat} : digT k = nI (48 + k / 10) := rfl
theorem d_appInt1 {F : Nat} (hF : 10 < F) {σ : St} {n : Nat} {f : Nat → Nat} (T : Tx σ n f) (hn : n < 13) {v : Nat} (hv : v < 120) (v9 : v ≤ 9) : ∃ σ', f_J4_append_bf812 F σ (nI v) = some σ' ∧ Tx σ' (n + dgN v) (dgP f n v) ∧ FrN σ σ' := by
  obtain ⟨h1, h2, h3, h4⟩ := T
  have m0 := Nat.mod_lt v (show 0 < 10 by omega)
  have ds := d_stringSize (F := F) hF (σ := σ) hv
  have nn : -(-nI v) = nI v := Int32.neg_neg
  obtain ⟨m, rfl⟩ : ∃ n, F = n + 2 := ⟨F - 2, by omega⟩
  unfold f_J4_append_bf812 f_J5_append_c97b9 f_J5_ensureCapacityInternal_d00df f_J5_isLatin1_aae02 f_J6_getChars_ba4f3 f_J6_getChars_ba4f3_12
  unfold dgP
  have hd : dgN v = 1 := by unfold dgN; exact if_pos v9
  rw [hd] at ds ⊢
  refine ⟨ss (sr σ 33 n (nI (48 + v % 10))) 34 (nI (n + 1)), ?_, ⟨?_, ss_same, by omega, fun i hi => ?_⟩, ⟨fun k _ h => ss_ne h, fun r hr => sr_ne hr, rfl⟩⟩
  · simp (disch := omega) only [↓bnd_i, ↓cal_s, ↓cal_n, ↓cal2_s, ↓cal2_n, cal_s, cal2_s, ↓reduceIte, fa_lit, m1_lit, m2_lit, m1_lt, m2_lt, m1_eq, m2_eq, m1_le, m2_le, le_m1, le_m2, lt_m1, lt_m2, m12, m21, m1_m1, n_lt, n_le, n_eq, lt_t, lt_f, le_t, le_f, eq_t, eq_f, n_cl, inb_ok, n_add, pk_mul, pk_sub, n_rem, n_div, n_dec, n_mx, n_mn, eq_m1, eq_m2, ss_same, ss_ne, ss_r, ss_l, sr_f, sr_l, sr_same, sr_ne, sw_f, sw_l, sw_at, sw_ne, pk_us, pk_un, bI_t, bI_f, not_true_eq_false, not_false_eq_true, eq_self, and_true, true_and, and_false, false_and, or_true, true_or, or_false, false_or, decide_true, decide_false, Bool.false_eq_true, Bool.true_eq_false, ↓cal_w (ds), ds, h1, h2, sh16, eq_true (cap16 (n + 1) (by omega))]
    rw [f_J6_getChars_ba4f3_22]
    simp (disch := omega) only [↓bnd_i, ↓cal_s, ↓cal_n, ↓cal2_s, ↓cal2_n, cal_s, cal2_s, ↓reduceIte, fa_lit, m1_lit, m2_lit, m1_lt, m2_lt, m1_eq, m2_eq, m1_le, m2_le, le_m1, le_m2, lt_m1, lt_m2, m12, m21, m1_m1, n_lt, n_le, n_eq, lt_t, lt_f, le_t, le_f, eq_t, eq_f, n_cl, inb_ok, n_add, pk_mul, pk_sub, n_rem, n_div, n_dec, n_mx, n_mn, eq_m1, eq_m2, ss_same, ss_ne, ss_r, ss_l, sr_f, sr_l, sr_same, sr_ne, sw_f, sw_l, sw_at, sw_ne, pk_us, pk_un, bI_t, bI_f, not_true_eq_false, not_false_eq_true, eq_self, and_true, true_and, and_false, false_and, or_true, true_or, or_false, false_or, decide_true, decide_false, Bool.false_eq_true, Bool.true_eq_false, pr_t (ngl v hv) (decide_eq_true (by omega)), pr_t (ng9 v hv) (decide_eq_true (by omega)), nn, dgO_b, nrB (48 + v % 10) (by omega), f_J6_getChars_ba4f3_104, Nat.add_sub_cancel]
  · rw [ss_ne (by omega)]; exact h1
  · rw [ss_r, sr_same, if_pos v9]
    unfold pt
    by_cases e : i = n
    · rw [e, pk_us, if_pos rfl]
    · rw [pk_un e, if_neg e]; exact h4 i (by omega)
theorem d_appInt2 {F : Nat} (hF : 10 < F) {σ : St} {n : Nat} {f : Nat → Nat} (T : Tx σ n f) (hn : n < 13) {v : Nat} (hv : v < 120) (v9 : ¬ v ≤ 9) (v99 : v ≤ 99) : ∃ σ', f_J4_append_bf812 F σ (nI v) = some σ' ∧ Tx σ' (n + dgN v) (dgP f n v) ∧ FrN σ σ' := by
  obtain ⟨h1, h2, h3, h4⟩ := T
  have m0 := Nat.mod_lt v (show 0 < 10 by omega)
  have ds := d_stringSize (F := F) hF (σ := σ) hv
  have nn : -(-nI v) = nI v := Int32.neg_neg
  obtain ⟨m, rfl⟩ : ∃ n, F = n + 2 := ⟨F - 2, by omega⟩
  unfold f_J4_append_bf812 f_J5_append_c97b9 f_J5_ensureCapacityInternal_d00df f_J5_isLatin1_aae02 f_J6_getChars_ba4f3 f_J6_getChars_ba4f3_12
  unfold dgP
  have hd : dgN v = 2 := by unfold dgN; rw [if_neg v9]; exact if_pos v99
  have m1' : v / 10 % 10 = v / 10 := Nat.mod_eq_of_lt (by omega)
  rw [hd] at ds ⊢
  refine ⟨ss (sr (sr σ 33 (n + 1) (nI (48 + v % 10))) 33 n (nI (48 + v / 10))) 34 (nI (n + 2)), ?_, ⟨?_, ss_same, by omega, fun i hi => ?_⟩, ⟨fun k _ h => ss_ne h, fun r hr => by rw [ss_r, sr_ne hr, sr_ne hr], rfl⟩⟩
  · simp (disch := omega) only [↓bnd_i, ↓cal_s, ↓cal_n, ↓cal2_s, ↓cal2_n, cal_s, cal2_s, ↓reduceIte, fa_lit, m1_lit, m2_lit, m1_lt, m2_lt, m1_eq, m2_eq, m1_le, m2_le, le_m1, le_m2, lt_m1, lt_m2, m12, m21, m1_m1, n_lt, n_le, n_eq, lt_t, lt_f, le_t, le_f, eq_t, eq_f, n_cl, inb_ok, n_add, pk_mul, pk_sub, n_rem, n_div, n_dec, n_mx, n_mn, eq_m1, eq_m2, ss_same, ss_ne, ss_r, ss_l, sr_f, sr_l, sr_same, sr_ne, sw_f, sw_l, sw_at, sw_ne, pk_us, pk_un, bI_t, bI_f, not_true_eq_false, not_false_eq_true, eq_self, and_true, true_and, and_false, false_and, or_true, true_or, or_false, false_or, decide_true, decide_false, Bool.false_eq_true, Bool.true_eq_false, ↓cal_w (ds), ds, h1, h2, sh16, eq_true (cap16 (n + 2) (by omega))]
    rw [f_J6_getChars_ba4f3_22]
    simp (disch := omega) only [↓bnd_i, ↓cal_s, ↓cal_n, ↓cal2_s, ↓cal2_n, cal_s, cal2_s, ↓reduceIte, fa_lit, m1_lit, m2_lit, m1_lt, m2_lt, m1_eq, m2_eq, m1_le, m2_le, le_m1, le_m2, lt_m1, lt_m2, m12, m21, m1_m1, n_lt, n_le, n_eq, lt_t, lt_f, le_t, le_f, eq_t, eq_f, n_cl, inb_ok, n_add, pk_mul, pk_sub, n_rem, n_div, n_dec, n_mx, n_mn, eq_m1, eq_m2, ss_same, ss_ne, ss_r, ss_l, sr_f, sr_l, sr_same, sr_ne, sw_f, sw_l, sw_at, sw_ne, pk_us, pk_un, bI_t, bI_f, not_true_eq_false, not_false_eq_true, eq_self, and_true, true_and, and_false, false_and, or_true, true_or, or_false, false_or, decide_true, decide_false, Bool.false_eq_true, Bool.true_eq_false, pr_t (ngl v hv) (decide_eq_true (by omega)), pr_f (ng9 v hv) (decide_eq_false (by omega)), nn, dgO_b, dgT_b, nrB (48 + v % 10) (by omega), nrB (48 + v / 10) (by omega), f_J6_getChars_ba4f3_104, show n + 2 - 1 = n + 1 by omega, show n + 1 - 1 = n by omega]
  · rw [ss_ne (by omega)]; exact h1
  · rw [ss_r, sr_same, sr_same, if_neg v9, if_pos v99, m1']
    unfold pt
    by_cases e : i = n
    · rw [e, pk_us, if_neg (by omega), if_pos rfl]
    · rw [pk_un e]
      by_cases e2 : i = n + 1
      · rw [e2, pk_us, if_pos rfl]
      · rw [pk_un e2, if_neg e2, if_neg e]; exact h4 i (by omega)
theorem dgO_1 : digO 1 = nI 49 := rfl
theorem nrB49 : vp_nar .byte (nI 49) = nI 49 := by decide +kernel
theorem gc_0 {F m : Nat} {σ : St} {n v : Nat} (hn : n < 16) (hv : v < 120) (v9 : v ≤ 9) : f_J6_getChars_ba4f3_22 F (m + 1) σ (-nI v) (nI (n + 1)) (nI 0) = some (nI n, sr σ 33 n (nI (48 + v % 10))) := by
  have m0 := Nat.mod_lt v (show 0 < 10 by omega)
  have nn : -(-nI v) = nI v := Int32.neg_neg
  rw [f_J6_getChars_ba4f3_22]
  simp (disch := omega) only [↓bnd_i, ↓cal_s, ↓cal_n, ↓cal2_s, ↓cal2_n, cal_s, cal2_s, ↓reduceIte, fa_lit, m1_lit, m2_lit, m1_lt, m2_lt, m1_eq, m2_eq, m1_le, m2_le, le_m1, le_m2, lt_m1, lt_m2, m12, m21, m1_m1, n_lt, n_le, n_eq, lt_t, lt_f, le_t, le_f, eq_t, eq_f, n_cl, inb_ok, n_add, pk_mul, pk_sub, n_rem, n_div, n_dec, n_mx, n_mn, eq_m1, eq_m2, ss_same, ss_ne, ss_r, ss_l, sr_f, sr_l, sr_same, sr_ne, sw_f, sw_l, sw_at, sw_ne, pk_us, pk_un, bI_t, bI_f, not_true_eq_false, not_false_eq_true, eq_self, and_true, true_and, and_false, false_and, or_true, true_or, or_false, false_or, decide_true, decide_false, Bool.false_eq_true, Bool.true_eq_false, pr_t (ngl v hv) (decide_eq_true (by omega)), pr_t (ng9 v hv) (decide_eq_true (by omega)), nn, dgO_b, nrB (48 + v % 10) (by omega), f_J6_getChars_ba4f3_104, Nat.add_sub_cancel]
theorem gc_1 {F m : Nat} {σ : St} {n : Nat} (hn : n < 16) : f_J6_getChars_ba4f3_22 F (m + 1) σ m1 (nI (n + 1)) (nI 0) = some (nI n, sr σ 33 n (nI 49)) := gc_0 (v := 1) hn (by omega) (by omega)
theorem gc_3 {F m : Nat} {σ : St} {n : Nat} (hn : n < 13) {v : Nat} (hv : v < 120) (v99 : ¬ v ≤ 99) : f_J6_getChars_ba4f3_22 F (m + 2) σ (-nI v) (nI (n + 3)) (nI 0) = some (nI n, sr (sr (sr σ 33 (n + 2) (nI (48 + (v - 100) % 10))) 33 (n + 1) (nI (48 + (v - 100) / 10))) 33 n (nI 49)) := by
  obtain ⟨d1, d2⟩ := ngd v hv (by omega)
  rw [d1] at d2
  have d1 : -nI v / nI 100 = m1 := d1
  have d2 : m1 * nI 100 - -nI v = nI (v - 100) := d2
  have m0 := Nat.mod_lt (v - 100) (show 0 < 10 by omega)
  have g := gc_1 (F := F) (m := m) (σ := sr (sr σ 33 (n + 2) (nI (48 + (v - 100) % 10))) 33 (n + 1) (nI (48 + (v - 100) / 10))) (n := n) (by omega)
  rw [f_J6_getChars_ba4f3_22]
  simp (disch := omega) only [↓bnd_i, ↓cal_s, ↓cal_n, ↓cal2_s, ↓cal2_n, cal_s, cal2_s, ↓reduceIte, fa_lit, m1_lit, m2_lit, m1_lt, m2_lt, m1_eq, m2_eq, m1_le, m2_le, le_m1, le_m2, lt_m1, lt_m2, m12, m21, m1_m1, n_lt, n_le, n_eq, lt_t, lt_f, le_t, le_f, eq_t, eq_f, n_cl, inb_ok, n_add, pk_mul, pk_sub, n_rem, n_div, n_dec, n_mx, n_mn, eq_m1, eq_m2, ss_same, ss_ne, ss_r, ss_l, sr_f, sr_l, sr_same, sr_ne, sw_f, sw_l, sw_at, sw_ne, pk_us, pk_un, bI_t, bI_f, not_true_eq_false, not_false_eq_true, eq_self, and_true, true_and, and_false, false_and, or_true, true_or, or_false, false_or, decide_true, decide_false, Bool.false_eq_true, Bool.true_eq_false, pr_f (ngl v hv) (decide_eq_false (by omega)), d1]
  simp (disch := omega) only [↓bnd_i, ↓cal_s, ↓cal_n, ↓cal2_s, ↓cal2_n, cal_s, cal2_s, ↓reduceIte, fa_lit, m1_lit, m2_lit, m1_lt, m2_lt, m1_eq, m2_eq, m1_le, m2_le, le_m1, le_m2, lt_m1, lt_m2, m12, m21, m1_m1, n_lt, n_le, n_eq, lt_t, lt_f, le_t, le_f, eq_t, eq_f, n_cl, inb_ok, n_add, pk_mul, pk_sub, n_rem, n_div, n_dec, n_mx, n_mn, eq_m1, eq_m2, ss_same, ss_ne, ss_r, ss_l, sr_f, sr_l, sr_same, sr_ne, sw_f, sw_l, sw_at, sw_ne, pk_us, pk_un, bI_t, bI_f, not_true_eq_false, not_false_eq_true, eq_self, and_true, true_and, and_false, false_and, or_true, true_or, or_false, false_or, decide_true, decide_false, Bool.false_eq_true, Bool.true_eq_false, d2, dgO_b, dgT_b, nrB (48 + (v - 100) % 10) (by omega), nrB (48 + (v - 100) / 10) (by omega), show n + 3 - 1 = n + 2 by omega, show n + 2 - 1 = n + 1 by omega]
  exact g
theorem d_appInt3 {F : Nat} (hF : 10 < F) {σ : St} {n : Nat} {f : Nat → Nat} (T : Tx σ n f) (hn : n < 13) {v : Nat} (hv : v < 120) (v9 : ¬ v ≤ 9) (v99 : ¬ v ≤ 99) : ∃ σ', f_J4_append_bf812 F σ (nI v) = some σ' ∧ Tx σ' (n + dgN v) (dgP f n v) ∧ FrN σ σ' := by
  obtain ⟨h1, h2, h3, h4⟩ := T
  have ds := d_stringSize (F := F) hF (σ := σ) hv
  obtain ⟨m, rfl⟩ : ∃ n, F = n + 2 := ⟨F - 2, by omega⟩
  have g := gc_3 (F := m + 2) (m := m) (σ := σ) hn hv v99
  have hd : dgN v = 3 := by unfold dgN; rw [if_neg v9]; exact if_neg v99
  have e1 : v / 100 = 1 := by omega
  have e2 : v / 10 % 10 = (v - 100) / 10 := by omega
  have e3 : v % 10 = (v - 100) % 10 := by omega
  rw [hd] at ds ⊢
  refine ⟨ss (sr (sr (sr σ 33 (n + 2) (nI (48 + (v - 100) % 10))) 33 (n + 1) (nI (48 + (v - 100) / 10))) 33 n (nI 49)) 34 (nI (n + 3)), ?_, ⟨?_, ss_same, by omega, fun i hi => ?_⟩, ⟨fun k _ h => ss_ne h, fun r hr => by rw [ss_r, sr_ne hr, sr_ne hr, sr_ne hr], rfl⟩⟩
  · unfold f_J4_append_bf812 f_J5_append_c97b9 f_J5_ensureCapacityInternal_d00df f_J5_isLatin1_aae02 f_J6_getChars_ba4f3 f_J6_getChars_ba4f3_12
    simp (disch := omega) only [↓bnd_i, ↓cal_s, ↓cal_n, ↓cal2_s, ↓cal2_n, cal_s, cal2_s, ↓reduceIte, fa_lit, m1_lit, m2_lit, m1_lt, m2_lt, m1_eq, m2_eq, m1_le, m2_le, le_m1, le_m2, lt_m1, lt_m2, m12, m21, m1_m1, n_lt, n_le, n_eq, lt_t, lt_f, le_t, le_f, eq_t, eq_f, n_cl, inb_ok, n_add, pk_mul, pk_sub, n_rem, n_div, n_dec, n_mx, n_mn, eq_m1, eq_m2, ss_same, ss_ne, ss_r, ss_l, sr_f, sr_l, sr_same, sr_ne, sw_f, sw_l, sw_at, sw_ne, pk_us, pk_un, bI_t, bI_f, not_true_eq_false, not_false_eq_true, eq_self, and_true, true_and, and_false, false_and, or_true, true_or, or_false, false_or, decide_true, decide_false, Bool.false_eq_true, Bool.true_eq_false, ↓cal_w (ds), ds, ↓cal2_w (g), g, h1, h2, sh16, eq_true (cap16 (n + 3) (by omega))]
  · rw [ss_ne (by omega)]; exact h1
  · unfold dgP
    rw [ss_r, sr_same, sr_same, sr_same, if_neg v9, if_neg v99, e1, e2, e3]
    unfold pt
    by_cases e : i = n
    · rw [e, pk_us, if_neg (by omega), if_neg (by omega), if_pos rfl]
    · rw [pk_un e]
      by_cases e2 : i = n + 1
      · rw [e2, pk_us, if_neg (by omega), if_pos rfl]
      · rw [pk_un e2]
        by_cases e3 : i = n + 2
        · rw [e3, pk_us, if_pos rfl]
        · rw [pk_un e3, if_neg e3, if_neg e2, if_neg e]; exact h4 i (by omega)
theorem d_appInt {F : Nat} (hF : 10 < F) {σ : St} {n : Nat} {f : Nat → Nat} (T : Tx σ n f) (hn : n < 13) {v : Nat} (hv : v < 120) : ∃ σ', f_J4_append_bf812 F σ (nI v) = some σ' ∧ Tx σ' (n + dgN v) (dgP f n v) ∧ FrN σ σ' := by
  by_cases v9 : v ≤ 9
  · exact d_appInt1 hF T hn hv v9
  · by_cases v99 : v ≤ 99
    · exact d_appInt2 hF T hn hv v9 v99
    · exact d_appInt3 hF T hn hv v9 v99
theorem pt_lt {f : Nat → Nat} {n c : Nat} (h : ∀ i, i < n → f i < 128) (hc : c < 128) : ∀ i, i < n + 1 → pt f n c i < 128 := by
  intro i hi
  unfold pt
  by_cases e : i = n
  · rw [if_pos e]; exact hc
  · rw [if_neg e]; exact h i (by omega)
theorem dg_lt {f : Nat → Nat} {n v : Nat} (h : ∀ i, i < n → f i < 128) (hv : v < 120) : ∀ i, i < n + dgN v → dgP f n v i < 128 := by
  have m0 := Nat.mod_lt v (show 0 < 10 by omega)
  have m1' := Nat.mod_lt (v / 10) (show 0 < 10 by omega)
  unfold dgN dgP
  by_cases v9 : v ≤ 9
  · rw [if_pos v9, if_pos v9]; exact pt_lt h (by omega)
  · rw [if_neg v9, if_neg v9]
    by_cases v99 : v ≤ 99
    · rw [if_pos v99, if_pos v99]; exact pt_lt (pt_lt h (by omega)) (by omega)
    · rw [if_neg v99, if_neg v99]; exact pt_lt (pt_lt (pt_lt h (by omega)) (by omega)) (by omega)
theorem dgN_le (v : Nat) : dgN v ≤ 3 := by unfold dgN; split; omega; split <;> omega
