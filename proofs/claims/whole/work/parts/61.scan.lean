/-! PURE: tokens, as numbers; the desk's scan -/
def isLt (c : Nat) : Bool := decide (97 ≤ c ∧ c ≤ 122)
def isDg (c : Nat) : Bool := decide (48 ≤ c ∧ c ≤ 57)
def isBl (c : Nat) : Bool := decide (c = 9 ∨ c = 10 ∨ c = 13 ∨ c = 32)
/-- the end of a run -/
def rnE (b : Nat → Nat) (L : Nat) (P : Nat → Bool) : Nat → Nat → Nat
  | 0, i => i
  | m + 1, i => if i < L ∧ P (b i) = true then rnE b L P m (i + 1) else i
def re (b : Nat → Nat) (L : Nat) (P : Nat → Bool) (i : Nat) : Nat := rnE b L P (L - i) i
theorem rnE_P {b : Nat → Nat} {L : Nat} {P : Nat → Bool} : ∀ m i, i + m = L → i ≤ rnE b L P m i ∧ rnE b L P m i ≤ L ∧ (∀ j, i ≤ j → j < rnE b L P m i → P (b j) = true) ∧ (rnE b L P m i < L → P (b (rnE b L P m i)) = false)
  | 0, i, h => ⟨Nat.le_refl _, by show i ≤ L; omega, fun j h1 h2 => by have h2 : j < i := h2; omega, fun h2 => by have h2 : i < L := h2; omega⟩
  | m + 1, i, h => by
    have ih := rnE_P (b := b) (L := L) (P := P) m (i + 1) (by omega)
    simp only [rnE]
    by_cases c : P (b i) = true
    · rw [if_pos ⟨by omega, c⟩]
      refine ⟨by omega, ih.2.1, fun j h1 h2 => ?_, ih.2.2.2⟩
      by_cases e : j = i
      · rw [e]; exact c
      · exact ih.2.2.1 j (by omega) h2
    · rw [if_neg (fun q => c q.2)]
      exact ⟨Nat.le_refl _, by omega, fun j h1 h2 => by omega, fun _ => by simpa using c⟩
theorem re_P {b : Nat → Nat} {L : Nat} {P : Nat → Bool} {i : Nat} (h : i ≤ L) : i ≤ re b L P i ∧ re b L P i ≤ L ∧ (∀ j, i ≤ j → j < re b L P i → P (b j) = true) ∧ (re b L P i < L → P (b (re b L P i)) = false) := rnE_P (L - i) i (by omega)
theorem re_s {b : Nat → Nat} {L : Nat} {P : Nat → Bool} {i : Nat} (h : i < L) (c : P (b i) = true) : re b L P i = re b L P (i + 1) := by
  unfold re
  obtain ⟨m, hm⟩ : ∃ m, L - i = m + 1 := ⟨L - i - 1, by omega⟩
  rw [hm, show L - (i + 1) = m by omega, rnE, if_pos ⟨h, c⟩]
theorem re_n {b : Nat → Nat} {L : Nat} {P : Nat → Bool} {i : Nat} (c : L ≤ i ∨ P (b i) = false) : re b L P i = i := by
  unfold re
  cases hm : L - i with
  | zero => rfl
  | succ m =>
    rw [rnE, if_neg]
    rintro ⟨q1, q2⟩
    rcases c with c | c
    · omega
    · rw [c] at q2; cases q2
/-- where a token ends -/
def tE (b : Nat → Nat) (L i : Nat) : Nat := if isLt (b i) then re b L isLt i else if isDg (b i) then re b L isDg i else i + 1
theorem tE_P {b : Nat → Nat} {L i : Nat} (h : i < L) : i < tE b L i ∧ tE b L i ≤ L := by
  unfold tE
  cases c : isLt (b i)
  · cases d : isDg (b i)
    · simp; omega
    · have q := re_P (b := b) (P := isDg) (i := i + 1) (L := L) (by omega)
      simp only [Bool.false_eq_true, if_false, if_true]
      rw [re_s h d]
      omega
  · have q := re_P (b := b) (P := isLt) (i := i + 1) (L := L) (by omega)
    simp only [if_true]
    rw [re_s h c]
    omega
/-- a name's number -/
def nvF (a : Nat → Nat) : Nat → Nat
  | 0 => 0
  | k + 1 => 27 * nvF a k + (a k - 96)
def wkF (v : Nat) : Nat → Nat → Nat
  | 0, _ => 30
  | m + 1, w => if kyN.getD w 0 = v then w else wkF v m (w + 1)
def wK (v : Nat) : Nat := wkF v 20 0
def sgK (c : Nat) : Nat := if c = 59 then 21 else if c = 43 then 22 else if c = 45 then 23 else if c = 42 then 24 else if c = 47 then 25 else if c = 37 then 26 else if c = 40 then 27 else if c = 41 then 28 else 30
def tK (b : Nat → Nat) (L i : Nat) : Nat := if isLt (b i) then (if tE b L i - i ≤ 8 then wK (nvF (fun k => b (i + k)) (tE b L i - i)) else 30) else if isDg (b i) then (if tE b L i - i ≤ 4 then 20 else 30) else sgK (b i)
def nmF (a : Nat → Nat) : Nat → Nat
  | 0 => 0
  | k + 1 => 10 * nmF a k + (a k - 48)
def tV (b : Nat → Nat) (L i : Nat) : Nat := nmF (fun k => b (i + k)) (tE b L i - i)
theorem nvF_inj {a c : Nat → Nat} : ∀ m m', (∀ k, k < m → 97 ≤ a k ∧ a k ≤ 122) → (∀ k, k < m' → 97 ≤ c k ∧ c k ≤ 122) → nvF a m = nvF c m' → m = m' ∧ ∀ k, k < m → a k = c k
  | 0, 0, _, _, _ => ⟨rfl, fun k h => by omega⟩
  | 0, m' + 1, _, h2, e => by
    have := h2 m' (by omega)
    simp only [nvF] at e
    omega
  | m + 1, 0, h1, _, e => by
    have := h1 m (by omega)
    simp only [nvF] at e
    omega
  | m + 1, m' + 1, h1, h2, e => by
    have q1 := h1 m (by omega)
    have q2 := h2 m' (by omega)
    simp only [nvF] at e
    obtain ⟨r1, r2⟩ := nvF_inj m m' (fun k hk => h1 k (by omega)) (fun k hk => h2 k (by omega)) (by omega)
    refine ⟨by omega, fun k hk => ?_⟩
    by_cases d : k = m
    · subst d; subst r1; omega
    · exact r2 k (by omega)
theorem nvF_cong {a c : Nat → Nat} : ∀ m, (∀ k, k < m → a k = c k) → nvF a m = nvF c m
  | 0, _ => rfl
  | m + 1, h => by
    simp only [nvF]
    rw [nvF_cong m (fun k hk => h k (by omega)), h m (by omega)]
/-- the words -/
def wB (w k : Nat) : Nat := (((bytS.getD 0 []).getD (8 * w + k) 0) : Int32).toNatClampNeg
def wLn : List Nat := [5, 5, 5, 3, 4, 4, 4, 4, 4, 5, 7, 4, 2, 3, 1, 1, 5, 4, 6, 4]
theorem w_all : ∀ w, w < 20 → nvF (wB w) (wLn.getD w 0) = kyN.getD w 0 ∧ wLn.getD w 0 < 8 ∧ (∀ k, k < wLn.getD w 0 → 97 ≤ wB w k ∧ wB w k ≤ 122) ∧ (∀ k, k < 8 → wLn.getD w 0 ≤ k → wB w k = 32) := by decide +kernel
theorem w_byt : ∀ w, w < 20 → ∀ k, k < 8 → (bytS.getD 0 []).getD (8 * w + k) 0 = nI (wB w k) ∧ wB w k < 128 := by decide +kernel
theorem ky_inj : ∀ w, w < 20 → ∀ v, v < 20 → kyN.getD w 0 = kyN.getD v 0 → w = v := by decide +kernel
theorem ky_lt : ∀ w, w < 20 → kyN.getD w 0 < 2 ^ 62 := by decide +kernel
/-- a run of letters is a word just when its number is the word's -/
theorem w_iff {a : Nat → Nat} {m w : Nat} (hw : w < 20) (hm : m ≤ 8) (ha : ∀ k, k < m → 97 ≤ a k ∧ a k ≤ 122) : (∀ k, k < 8 → (if k < m then a k else 32) = wB w k) ↔ kyN.getD w 0 = nvF a m := by
  obtain ⟨q1, q2, q3, q4⟩ := w_all w hw
  constructor
  · intro h
    have e : m = wLn.getD w 0 := by
      rcases Nat.lt_trichotomy m (wLn.getD w 0) with d | d | d
      · have x1 := h m (by omega)
        have x2 := q3 m d
        rw [if_neg (by omega)] at x1
        omega
      · exact d
      · have x1 := h (wLn.getD w 0) q2
        have x2 := q4 (wLn.getD w 0) q2 (Nat.le_refl _)
        have x3 := ha _ d
        rw [if_pos d] at x1
        omega
    rw [← q1, ← e]
    exact nvF_cong m (fun k hk => by
      have x := h k (by omega)
      rw [if_pos hk] at x
      exact x.symm)
  · intro h k hk
    rw [← q1] at h
    obtain ⟨r1, r2⟩ := nvF_inj m (wLn.getD w 0) ha q3 h.symm
    by_cases d : k < m
    · rw [if_pos d]; exact r2 k d
    · rw [if_neg d]; exact (q4 k hk (by omega)).symm
/-! the desk -/
def TxD (b : Nat → Nat) (L : Nat) (σ : St) : Prop := L ≤ 2000 ∧ ∀ i, i < L → σ.2.1 9 i &&& nI 255 = nI (b i) ∧ b i < 256
theorem d_isLetter {F : Nat} {σ : St} {c : Nat} (h : c < 256) : f_X6_isLetter F σ (nI c) = some (bI (isLt c)) := by
  unfold f_X6_isLetter isLt
  by_cases d : c < 97
  · rw [decide_eq_false (by omega)]
    simp (disch := omega) only [↓bnd_i, ↓cal_s, ↓cal_n, ↓cal2_s, ↓cal2_n, cal_s, cal2_s, ↓reduceIte, fa_lit, m1_lit, m2_lit, m1_lt, m2_lt, m1_eq, m2_eq, m1_le, m2_le, le_m1, le_m2, lt_m1, lt_m2, m12, m21, m1_m1, n_lt, n_le, n_eq, lt_t, lt_f, le_t, le_f, eq_t, eq_f, n_cl, inb_ok, n_add, pk_mul, pk_sub, n_rem, n_div, n_dec, n_mx, n_mn, eq_m1, eq_m2, ss_same, ss_ne, ss_r, ss_l, sr_f, sr_l, sr_same, sr_ne, sw_f, sw_l, sw_at, sw_ne, pk_us, pk_un, bI_t, bI_f, not_true_eq_false, not_false_eq_true, eq_self, and_true, true_and, and_false, false_and, or_true, true_or, or_false, false_or, decide_true, decide_false, Bool.false_eq_true, Bool.true_eq_false]
  · by_cases e : 122 < c
    · rw [decide_eq_false (by omega)]
      simp (disch := omega) only [↓bnd_i, ↓cal_s, ↓cal_n, ↓cal2_s, ↓cal2_n, cal_s, cal2_s, ↓reduceIte, fa_lit, m1_lit, m2_lit, m1_lt, m2_lt, m1_eq, m2_eq, m1_le, m2_le, le_m1, le_m2, lt_m1, lt_m2, m12, m21, m1_m1, n_lt, n_le, n_eq, lt_t, lt_f, le_t, le_f, eq_t, eq_f, n_cl, inb_ok, n_add, pk_mul, pk_sub, n_rem, n_div, n_dec, n_mx, n_mn, eq_m1, eq_m2, ss_same, ss_ne, ss_r, ss_l, sr_f, sr_l, sr_same, sr_ne, sw_f, sw_l, sw_at, sw_ne, pk_us, pk_un, bI_t, bI_f, not_true_eq_false, not_false_eq_true, eq_self, and_true, true_and, and_false, false_and, or_true, true_or, or_false, false_or, decide_true, decide_false, Bool.false_eq_true, Bool.true_eq_false]
    · rw [decide_eq_true (by omega)]
      simp (disch := omega) only [↓bnd_i, ↓cal_s, ↓cal_n, ↓cal2_s, ↓cal2_n, cal_s, cal2_s, ↓reduceIte, fa_lit, m1_lit, m2_lit, m1_lt, m2_lt, m1_eq, m2_eq, m1_le, m2_le, le_m1, le_m2, lt_m1, lt_m2, m12, m21, m1_m1, n_lt, n_le, n_eq, lt_t, lt_f, le_t, le_f, eq_t, eq_f, n_cl, inb_ok, n_add, pk_mul, pk_sub, n_rem, n_div, n_dec, n_mx, n_mn, eq_m1, eq_m2, ss_same, ss_ne, ss_r, ss_l, sr_f, sr_l, sr_same, sr_ne, sw_f, sw_l, sw_at, sw_ne, pk_us, pk_un, bI_t, bI_f, not_true_eq_false, not_false_eq_true, eq_self, and_true, true_and, and_false, false_and, or_true, true_or, or_false, false_or, decide_true, decide_false, Bool.false_eq_true, Bool.true_eq_false]
theorem d_isDigit {F : Nat} {σ : St} {c : Nat} (h : c < 256) : f_X6_isDigit F σ (nI c) = some (bI (isDg c)) := by
  unfold f_X6_isDigit isDg
  by_cases d : c < 48
  · rw [decide_eq_false (by omega)]
    simp (disch := omega) only [↓bnd_i, ↓cal_s, ↓cal_n, ↓cal2_s, ↓cal2_n, cal_s, cal2_s, ↓reduceIte, fa_lit, m1_lit, m2_lit, m1_lt, m2_lt, m1_eq, m2_eq, m1_le, m2_le, le_m1, le_m2, lt_m1, lt_m2, m12, m21, m1_m1, n_lt, n_le, n_eq, lt_t, lt_f, le_t, le_f, eq_t, eq_f, n_cl, inb_ok, n_add, pk_mul, pk_sub, n_rem, n_div, n_dec, n_mx, n_mn, eq_m1, eq_m2, ss_same, ss_ne, ss_r, ss_l, sr_f, sr_l, sr_same, sr_ne, sw_f, sw_l, sw_at, sw_ne, pk_us, pk_un, bI_t, bI_f, not_true_eq_false, not_false_eq_true, eq_self, and_true, true_and, and_false, false_and, or_true, true_or, or_false, false_or, decide_true, decide_false, Bool.false_eq_true, Bool.true_eq_false]
  · by_cases e : 57 < c
    · rw [decide_eq_false (by omega)]
      simp (disch := omega) only [↓bnd_i, ↓cal_s, ↓cal_n, ↓cal2_s, ↓cal2_n, cal_s, cal2_s, ↓reduceIte, fa_lit, m1_lit, m2_lit, m1_lt, m2_lt, m1_eq, m2_eq, m1_le, m2_le, le_m1, le_m2, lt_m1, lt_m2, m12, m21, m1_m1, n_lt, n_le, n_eq, lt_t, lt_f, le_t, le_f, eq_t, eq_f, n_cl, inb_ok, n_add, pk_mul, pk_sub, n_rem, n_div, n_dec, n_mx, n_mn, eq_m1, eq_m2, ss_same, ss_ne, ss_r, ss_l, sr_f, sr_l, sr_same, sr_ne, sw_f, sw_l, sw_at, sw_ne, pk_us, pk_un, bI_t, bI_f, not_true_eq_false, not_false_eq_true, eq_self, and_true, true_and, and_false, false_and, or_true, true_or, or_false, false_or, decide_true, decide_false, Bool.false_eq_true, Bool.true_eq_false]
    · rw [decide_eq_true (by omega)]
      simp (disch := omega) only [↓bnd_i, ↓cal_s, ↓cal_n, ↓cal2_s, ↓cal2_n, cal_s, cal2_s, ↓reduceIte, fa_lit, m1_lit, m2_lit, m1_lt, m2_lt, m1_eq, m2_eq, m1_le, m2_le, le_m1, le_m2, lt_m1, lt_m2, m12, m21, m1_m1, n_lt, n_le, n_eq, lt_t, lt_f, le_t, le_f, eq_t, eq_f, n_cl, inb_ok, n_add, pk_mul, pk_sub, n_rem, n_div, n_dec, n_mx, n_mn, eq_m1, eq_m2, ss_same, ss_ne, ss_r, ss_l, sr_f, sr_l, sr_same, sr_ne, sw_f, sw_l, sw_at, sw_ne, pk_us, pk_un, bI_t, bI_f, not_true_eq_false, not_false_eq_true, eq_self, and_true, true_and, and_false, false_and, or_true, true_or, or_false, false_or, decide_true, decide_false, Bool.false_eq_true, Bool.true_eq_false]
theorem d_isBlank {F : Nat} {σ : St} {c : Nat} (h : c < 256) : f_X6_isBlank F σ (nI c) = some (bI (isBl c)) := by
  unfold f_X6_isBlank isBl
  by_cases e1 : c = 9
  · rw [decide_eq_true (by omega)]
    simp (disch := omega) only [↓bnd_i, ↓cal_s, ↓cal_n, ↓cal2_s, ↓cal2_n, cal_s, cal2_s, ↓reduceIte, fa_lit, m1_lit, m2_lit, m1_lt, m2_lt, m1_eq, m2_eq, m1_le, m2_le, le_m1, le_m2, lt_m1, lt_m2, m12, m21, m1_m1, n_lt, n_le, n_eq, lt_t, lt_f, le_t, le_f, eq_t, eq_f, n_cl, inb_ok, n_add, pk_mul, pk_sub, n_rem, n_div, n_dec, n_mx, n_mn, eq_m1, eq_m2, ss_same, ss_ne, ss_r, ss_l, sr_f, sr_l, sr_same, sr_ne, sw_f, sw_l, sw_at, sw_ne, pk_us, pk_un, bI_t, bI_f, not_true_eq_false, not_false_eq_true, eq_self, and_true, true_and, and_false, false_and, or_true, true_or, or_false, false_or, decide_true, decide_false, Bool.false_eq_true, Bool.true_eq_false]
  · by_cases e2 : c = 10
    · rw [decide_eq_true (by omega)]
      simp (disch := omega) only [↓bnd_i, ↓cal_s, ↓cal_n, ↓cal2_s, ↓cal2_n, cal_s, cal2_s, ↓reduceIte, fa_lit, m1_lit, m2_lit, m1_lt, m2_lt, m1_eq, m2_eq, m1_le, m2_le, le_m1, le_m2, lt_m1, lt_m2, m12, m21, m1_m1, n_lt, n_le, n_eq, lt_t, lt_f, le_t, le_f, eq_t, eq_f, n_cl, inb_ok, n_add, pk_mul, pk_sub, n_rem, n_div, n_dec, n_mx, n_mn, eq_m1, eq_m2, ss_same, ss_ne, ss_r, ss_l, sr_f, sr_l, sr_same, sr_ne, sw_f, sw_l, sw_at, sw_ne, pk_us, pk_un, bI_t, bI_f, not_true_eq_false, not_false_eq_true, eq_self, and_true, true_and, and_false, false_and, or_true, true_or, or_false, false_or, decide_true, decide_false, Bool.false_eq_true, Bool.true_eq_false]
    · by_cases e3 : c = 13
      · rw [decide_eq_true (by omega)]
        simp (disch := omega) only [↓bnd_i, ↓cal_s, ↓cal_n, ↓cal2_s, ↓cal2_n, cal_s, cal2_s, ↓reduceIte, fa_lit, m1_lit, m2_lit, m1_lt, m2_lt, m1_eq, m2_eq, m1_le, m2_le, le_m1, le_m2, lt_m1, lt_m2, m12, m21, m1_m1, n_lt, n_le, n_eq, lt_t, lt_f, le_t, le_f, eq_t, eq_f, n_cl, inb_ok, n_add, pk_mul, pk_sub, n_rem, n_div, n_dec, n_mx, n_mn, eq_m1, eq_m2, ss_same, ss_ne, ss_r, ss_l, sr_f, sr_l, sr_same, sr_ne, sw_f, sw_l, sw_at, sw_ne, pk_us, pk_un, bI_t, bI_f, not_true_eq_false, not_false_eq_true, eq_self, and_true, true_and, and_false, false_and, or_true, true_or, or_false, false_or, decide_true, decide_false, Bool.false_eq_true, Bool.true_eq_false]
      · by_cases e4 : c = 32
        · rw [decide_eq_true (by omega)]
          simp (disch := omega) only [↓bnd_i, ↓cal_s, ↓cal_n, ↓cal2_s, ↓cal2_n, cal_s, cal2_s, ↓reduceIte, fa_lit, m1_lit, m2_lit, m1_lt, m2_lt, m1_eq, m2_eq, m1_le, m2_le, le_m1, le_m2, lt_m1, lt_m2, m12, m21, m1_m1, n_lt, n_le, n_eq, lt_t, lt_f, le_t, le_f, eq_t, eq_f, n_cl, inb_ok, n_add, pk_mul, pk_sub, n_rem, n_div, n_dec, n_mx, n_mn, eq_m1, eq_m2, ss_same, ss_ne, ss_r, ss_l, sr_f, sr_l, sr_same, sr_ne, sw_f, sw_l, sw_at, sw_ne, pk_us, pk_un, bI_t, bI_f, not_true_eq_false, not_false_eq_true, eq_self, and_true, true_and, and_false, false_and, or_true, true_or, or_false, false_or, decide_true, decide_false, Bool.false_eq_true, Bool.true_eq_false]
        · rw [decide_eq_false (by omega)]
          simp (disch := omega) only [↓bnd_i, ↓cal_s, ↓cal_n, ↓cal2_s, ↓cal2_n, cal_s, cal2_s, ↓reduceIte, fa_lit, m1_lit, m2_lit, m1_lt, m2_lt, m1_eq, m2_eq, m1_le, m2_le, le_m1, le_m2, lt_m1, lt_m2, m12, m21, m1_m1, n_lt, n_le, n_eq, lt_t, lt_f, le_t, le_f, eq_t, eq_f, n_cl, inb_ok, n_add, pk_mul, pk_sub, n_rem, n_div, n_dec, n_mx, n_mn, eq_m1, eq_m2, ss_same, ss_ne, ss_r, ss_l, sr_f, sr_l, sr_same, sr_ne, sw_f, sw_l, sw_at, sw_ne, pk_us, pk_un, bI_t, bI_f, not_true_eq_false, not_false_eq_true, eq_self, and_true, true_and, and_false, false_and, or_true, true_or, or_false, false_or, decide_true, decide_false, Bool.false_eq_true, Bool.true_eq_false]
theorem d_endOfRun {F : Nat} (hF : 2100 < F) {b : Nat → Nat} {L : Nat} {σ : St} (T : TxD b L σ) {i : Nat} (hi : i < L) : f_X6_endOfRun F σ (nI i) (nI L) = some (nI (tE b L i)) := by
  obtain ⟨hL, hb⟩ := T
  have k1 : ∀ n j, i ≤ j → j ≤ L → L - j < n → (∀ x, i ≤ x → x < j → isLt (b x) = true) → f_X6_endOfRun_2 F n σ (nI i) (nI L) (nI j) = f_X6_endOfRun_26 F σ (nI i) (nI L) (nI (re b L isLt j)) := by
    intro n
    induction n with
    | zero => intro j _ _ h; omega
    | succ n ih =>
      intro j h1 h2 hn hx
      rw [f_X6_endOfRun_2]
      by_cases e : j = L
      · rw [re_n (Or.inl (by omega))]
        simp (disch := omega) only [↓bnd_i, ↓cal_s, ↓cal_n, ↓cal2_s, ↓cal2_n, cal_s, cal2_s, ↓reduceIte, fa_lit, m1_lit, m2_lit, m1_lt, m2_lt, m1_eq, m2_eq, m1_le, m2_le, le_m1, le_m2, lt_m1, lt_m2, m12, m21, m1_m1, n_lt, n_le, n_eq, lt_t, lt_f, le_t, le_f, eq_t, eq_f, n_cl, inb_ok, n_add, pk_mul, pk_sub, n_rem, n_div, n_dec, n_mx, n_mn, eq_m1, eq_m2, ss_same, ss_ne, ss_r, ss_l, sr_f, sr_l, sr_same, sr_ne, sw_f, sw_l, sw_at, sw_ne, pk_us, pk_un, bI_t, bI_f, not_true_eq_false, not_false_eq_true, eq_self, and_true, true_and, and_false, false_and, or_true, true_or, or_false, false_or, decide_true, decide_false, Bool.false_eq_true, Bool.true_eq_false]
      · obtain ⟨x1, x2⟩ := hb j (by omega)
        have w := d_isLetter (F := F) (σ := σ) x2
        cases d : isLt (b j)
        · rw [d] at w
          rw [re_n (Or.inr d)]
          simp (disch := omega) only [↓bnd_i, ↓cal_s, ↓cal_n, ↓cal2_s, ↓cal2_n, cal_s, cal2_s, ↓reduceIte, fa_lit, m1_lit, m2_lit, m1_lt, m2_lt, m1_eq, m2_eq, m1_le, m2_le, le_m1, le_m2, lt_m1, lt_m2, m12, m21, m1_m1, n_lt, n_le, n_eq, lt_t, lt_f, le_t, le_f, eq_t, eq_f, n_cl, inb_ok, n_add, pk_mul, pk_sub, n_rem, n_div, n_dec, n_mx, n_mn, eq_m1, eq_m2, ss_same, ss_ne, ss_r, ss_l, sr_f, sr_l, sr_same, sr_ne, sw_f, sw_l, sw_at, sw_ne, pk_us, pk_un, bI_t, bI_f, not_true_eq_false, not_false_eq_true, eq_self, and_true, true_and, and_false, false_and, or_true, true_or, or_false, false_or, decide_true, decide_false, Bool.false_eq_true, Bool.true_eq_false, ↓cal_w (w), w, x1]
        · rw [d] at w
          rw [re_s (by omega) d]
          have ih' := ih (j + 1) (by omega) (by omega) (by omega) (fun x h3 h4 => by
            by_cases e : x = j
            · rw [e]; exact d
            · exact hx x h3 (by omega))
          simp (disch := omega) only [↓bnd_i, ↓cal_s, ↓cal_n, ↓cal2_s, ↓cal2_n, cal_s, cal2_s, ↓reduceIte, fa_lit, m1_lit, m2_lit, m1_lt, m2_lt, m1_eq, m2_eq, m1_le, m2_le, le_m1, le_m2, lt_m1, lt_m2, m12, m21, m1_m1, n_lt, n_le, n_eq, lt_t, lt_f, le_t, le_f, eq_t, eq_f, n_cl, inb_ok, n_add, pk_mul, pk_sub, n_rem, n_div, n_dec, n_mx, n_mn, eq_m1, eq_m2, ss_same, ss_ne, ss_r, ss_l, sr_f, sr_l, sr_same, sr_ne, sw_f, sw_l, sw_at, sw_ne, pk_us, pk_un, bI_t, bI_f, not_true_eq_false, not_false_eq_true, eq_self, and_true, true_and, and_false, false_and, or_true, true_or, or_false, false_or, decide_true, decide_false, Bool.false_eq_true, Bool.true_eq_false, ↓cal_w (w), w, x1]
          exact ih'
  have k2 : ∀ n j, i ≤ j → j ≤ L → L - j < n → f_X6_endOfRun_33 F n σ (nI i) (nI L) (nI j) = some (if re b L isDg j ≤ i then nI (i + 1) else nI (re b L isDg j)) := by
    intro n
    induction n with
    | zero => intro j _ _ h; omega
    | succ n ih =>
      intro j h1 h2 hn
      rw [f_X6_endOfRun_33]
      by_cases e : j = L
      · rw [re_n (show L ≤ j ∨ isDg (b j) = false from Or.inl (by omega)), if_neg (show ¬ j ≤ i by omega)]
        simp (disch := omega) only [↓bnd_i, ↓cal_s, ↓cal_n, ↓cal2_s, ↓cal2_n, cal_s, cal2_s, ↓reduceIte, fa_lit, m1_lit, m2_lit, m1_lt, m2_lt, m1_eq, m2_eq, m1_le, m2_le, le_m1, le_m2, lt_m1, lt_m2, m12, m21, m1_m1, n_lt, n_le, n_eq, lt_t, lt_f, le_t, le_f, eq_t, eq_f, n_cl, inb_ok, n_add, pk_mul, pk_sub, n_rem, n_div, n_dec, n_mx, n_mn, eq_m1, eq_m2, ss_same, ss_ne, ss_r, ss_l, sr_f, sr_l, sr_same, sr_ne, sw_f, sw_l, sw_at, sw_ne, pk_us, pk_un, bI_t, bI_f, not_true_eq_false, not_false_eq_true, eq_self, and_true, true_and, and_false, false_and, or_true, true_or, or_false, false_or, decide_true, decide_false, Bool.false_eq_true, Bool.true_eq_false]
      · obtain ⟨x1, x2⟩ := hb j (by omega)
        have w := d_isDigit (F := F) (σ := σ) x2
        cases d : isDg (b j)
        · rw [d] at w
          rw [re_n (Or.inr d)]
          by_cases c : j ≤ i
          · rw [if_pos c]
            simp (disch := omega) only [↓bnd_i, ↓cal_s, ↓cal_n, ↓cal2_s, ↓cal2_n, cal_s, cal2_s, ↓reduceIte, fa_lit, m1_lit, m2_lit, m1_lt, m2_lt, m1_eq, m2_eq, m1_le, m2_le, le_m1, le_m2, lt_m1, lt_m2, m12, m21, m1_m1, n_lt, n_le, n_eq, lt_t, lt_f, le_t, le_f, eq_t, eq_f, n_cl, inb_ok, n_add, pk_mul, pk_sub, n_rem, n_div, n_dec, n_mx, n_mn, eq_m1, eq_m2, ss_same, ss_ne, ss_r, ss_l, sr_f, sr_l, sr_same, sr_ne, sw_f, sw_l, sw_at, sw_ne, pk_us, pk_un, bI_t, bI_f, not_true_eq_false, not_false_eq_true, eq_self, and_true, true_and, and_false, false_and, or_true, true_or, or_false, false_or, decide_true, decide_false, Bool.false_eq_true, Bool.true_eq_false, ↓cal_w (w), w, x1]
          · rw [if_neg c]
            simp (disch := omega) only [↓bnd_i, ↓cal_s, ↓cal_n, ↓cal2_s, ↓cal2_n, cal_s, cal2_s, ↓reduceIte, fa_lit, m1_lit, m2_lit, m1_lt, m2_lt, m1_eq, m2_eq, m1_le, m2_le, le_m1, le_m2, lt_m1, lt_m2, m12, m21, m1_m1, n_lt, n_le, n_eq, lt_t, lt_f, le_t, le_f, eq_t, eq_f, n_cl, inb_ok, n_add, pk_mul, pk_sub, n_rem, n_div, n_dec, n_mx, n_mn, eq_m1, eq_m2, ss_same, ss_ne, ss_r, ss_l, sr_f, sr_l, sr_same, sr_ne, sw_f, sw_l, sw_at, sw_ne, pk_us, pk_un, bI_t, bI_f, not_true_eq_false, not_false_eq_true, eq_self, and_true, true_and, and_false, false_and, or_true, true_or, or_false, false_or, decide_true, decide_false, Bool.false_eq_true, Bool.true_eq_false, ↓cal_w (w), w, x1]
        · rw [d] at w
          rw [re_s (by omega) d]
          have ih' := ih (j + 1) (by omega) (by omega) (by omega)
          simp (disch := omega) only [↓bnd_i, ↓cal_s, ↓cal_n, ↓cal2_s, ↓cal2_n, cal_s, cal2_s, ↓reduceIte, fa_lit, m1_lit, m2_lit, m1_lt, m2_lt, m1_eq, m2_eq, m1_le, m2_le, le_m1, le_m2, lt_m1, lt_m2, m12, m21, m1_m1, n_lt, n_le, n_eq, lt_t, lt_f, le_t, le_f, eq_t, eq_f, n_cl, inb_ok, n_add, pk_mul, pk_sub, n_rem, n_div, n_dec, n_mx, n_mn, eq_m1, eq_m2, ss_same, ss_ne, ss_r, ss_l, sr_f, sr_l, sr_same, sr_ne, sw_f, sw_l, sw_at, sw_ne, pk_us, pk_un, bI_t, bI_f, not_true_eq_false, not_false_eq_true, eq_self, and_true, true_and, and_false, false_and, or_true, true_or, or_false, false_or, decide_true, decide_false, Bool.false_eq_true, Bool.true_eq_false, ↓cal_w (w), w, x1]
          exact ih'
  have q1 := k1 F i (Nat.le_refl _) (by omega) (by omega) (fun x h1 h2 => by omega)
  have q1' : f_X6_endOfRun F σ (nI i) (nI L) = _ := q1
  rw [q1']
  unfold f_X6_endOfRun_26 tE
  cases c : isLt (b i)
  · rw [re_n (Or.inr c)]
    have q2 := k2 F i (Nat.le_refl _) (by omega) (by omega)
    simp only [Bool.false_eq_true, if_false]
    cases d : isDg (b i)
    · rw [re_n (Or.inr d), if_pos (Nat.le_refl _)] at q2
      simp (disch := omega) only [↓bnd_i, ↓cal_s, ↓cal_n, ↓cal2_s, ↓cal2_n, cal_s, cal2_s, ↓reduceIte, fa_lit, m1_lit, m2_lit, m1_lt, m2_lt, m1_eq, m2_eq, m1_le, m2_le, le_m1, le_m2, lt_m1, lt_m2, m12, m21, m1_m1, n_lt, n_le, n_eq, lt_t, lt_f, le_t, le_f, eq_t, eq_f, n_cl, inb_ok, n_add, pk_mul, pk_sub, n_rem, n_div, n_dec, n_mx, n_mn, eq_m1, eq_m2, ss_same, ss_ne, ss_r, ss_l, sr_f, sr_l, sr_same, sr_ne, sw_f, sw_l, sw_at, sw_ne, pk_us, pk_un, bI_t, bI_f, not_true_eq_false, not_false_eq_true, eq_self, and_true, true_and, and_false, false_and, or_true, true_or, or_false, false_or, decide_true, decide_false, Bool.false_eq_true, Bool.true_eq_false]
      exact q2
    · have r := re_P (b := b) (P := isDg) (i := i + 1) (L := L) (by omega)
      rw [re_s hi d] at q2 ⊢
      rw [if_neg (by omega)] at q2
      simp (disch := omega) only [↓bnd_i, ↓cal_s, ↓cal_n, ↓cal2_s, ↓cal2_n, cal_s, cal2_s, ↓reduceIte, fa_lit, m1_lit, m2_lit, m1_lt, m2_lt, m1_eq, m2_eq, m1_le, m2_le, le_m1, le_m2, lt_m1, lt_m2, m12, m21, m1_m1, n_lt, n_le, n_eq, lt_t, lt_f, le_t, le_f, eq_t, eq_f, n_cl, inb_ok, n_add, pk_mul, pk_sub, n_rem, n_div, n_dec, n_mx, n_mn, eq_m1, eq_m2, ss_same, ss_ne, ss_r, ss_l, sr_f, sr_l, sr_same, sr_ne, sw_f, sw_l, sw_at, sw_ne, pk_us, pk_un, bI_t, bI_f, not_true_eq_false, not_false_eq_true, eq_self, and_true, true_and, and_false, false_and, or_true, true_or, or_false, false_or, decide_true, decide_false, Bool.false_eq_true, Bool.true_eq_false]
      exact q2
  · have r := re_P (b := b) (P := isLt) (i := i + 1) (L := L) (by omega)
    simp only [if_true]
    rw [re_s hi c]
    simp (disch := omega) only [↓bnd_i, ↓cal_s, ↓cal_n, ↓cal2_s, ↓cal2_n, cal_s, cal2_s, ↓reduceIte, fa_lit, m1_lit, m2_lit, m1_lt, m2_lt, m1_eq, m2_eq, m1_le, m2_le, le_m1, le_m2, lt_m1, lt_m2, m12, m21, m1_m1, n_lt, n_le, n_eq, lt_t, lt_f, le_t, le_f, eq_t, eq_f, n_cl, inb_ok, n_add, pk_mul, pk_sub, n_rem, n_div, n_dec, n_mx, n_mn, eq_m1, eq_m2, ss_same, ss_ne, ss_r, ss_l, sr_f, sr_l, sr_same, sr_ne, sw_f, sw_l, sw_at, sw_ne, pk_us, pk_un, bI_t, bI_f, not_true_eq_false, not_false_eq_true, eq_self, and_true, true_and, and_false, false_and, or_true, true_or, or_false, false_or, decide_true, decide_false, Bool.false_eq_true, Bool.true_eq_false]
theorem d_charAt {F : Nat} {σ : St} {w k : Nat} (hw : w < 20) (hk : k < 8) : f_J0_charAt_5068e F 0 σ (nI (8 * w + k)) = some (nI (wB w k)) := by
  obtain ⟨x1, x2⟩ := w_byt w hw k hk
  have l0 : lenS.getD 0 0 = 160 := rfl
  unfold f_J0_charAt_5068e f_J0_isLatin1_aae02 f_J1_charAt_3b067 f_J0_checkIndex_df160
  simp (disch := omega) only [↓bnd_i, ↓cal_s, ↓cal_n, ↓cal2_s, ↓cal2_n, cal_s, cal2_s, ↓reduceIte, fa_lit, m1_lit, m2_lit, m1_lt, m2_lt, m1_eq, m2_eq, m1_le, m2_le, le_m1, le_m2, lt_m1, lt_m2, m12, m21, m1_m1, n_lt, n_le, n_eq, lt_t, lt_f, le_t, le_f, eq_t, eq_f, n_cl, inb_ok, n_add, pk_mul, pk_sub, n_rem, n_div, n_dec, n_mx, n_mn, eq_m1, eq_m2, ss_same, ss_ne, ss_r, ss_l, sr_f, sr_l, sr_same, sr_ne, sw_f, sw_l, sw_at, sw_ne, pk_us, pk_un, bI_t, bI_f, not_true_eq_false, not_false_eq_true, eq_self, and_true, true_and, and_false, false_and, or_true, true_or, or_false, false_or, decide_true, decide_false, Bool.false_eq_true, Bool.true_eq_false, l0, show Int32.ofNat 160 = nI 160 from rfl]
  rw [show (bytS.getD 0 []).getD (8 * w + k) (nI 0) = nI (wB w k) from x1]
  simp (disch := omega) only [↓bnd_i, ↓cal_s, ↓cal_n, ↓cal2_s, ↓cal2_n, cal_s, cal2_s, ↓reduceIte, fa_lit, m1_lit, m2_lit, m1_lt, m2_lt, m1_eq, m2_eq, m1_le, m2_le, le_m1, le_m2, lt_m1, lt_m2, m12, m21, m1_m1, n_lt, n_le, n_eq, lt_t, lt_f, le_t, le_f, eq_t, eq_f, n_cl, inb_ok, n_add, pk_mul, pk_sub, n_rem, n_div, n_dec, n_mx, n_mn, eq_m1, eq_m2, ss_same, ss_ne, ss_r, ss_l, sr_f, sr_l, sr_same, sr_ne, sw_f, sw_l, sw_at, sw_ne, pk_us, pk_un, bI_t, bI_f, not_true_eq_false, not_false_eq_true, eq_self, and_true, true_and, and_false, false_and, or_true, true_or, or_false, false_or, decide_true, decide_false, Bool.false_eq_true, Bool.true_eq_false, chC _ x2, idCc _ x2]
theorem d_isWord {F : Nat} (hF : 100 < F) {b : Nat → Nat} {L : Nat} {σ : St} (T : TxD b L σ) {i e w : Nat} (hi : i ≤ e) (he : e ≤ L) (hw : w < 20) (c8 : e - i ≤ 8) (hl : ∀ j, i ≤ j → j < e → isLt (b j) = true) : f_X6_isWord F σ (nI i) (nI e) (nI w) = some (bI (decide (kyN.getD w 0 = nvF (fun k => b (i + k)) (e - i)))) := by
  obtain ⟨hL, hb⟩ := T
  have wi := w_iff (a := fun k => b (i + k)) (m := e - i) (w := w) hw c8 (fun k hk => of_decide_eq_true (hl (i + k) (by omega) (by omega)))
  have key : ∀ n k, k ≤ 8 → 8 - k < n → (∀ x, x < k → (if x < e - i then b (i + x) else 32) = wB w x) → f_X6_isWord_3 F n σ (nI i) (nI e) (nI w) (nI k) = some (bI (decide (kyN.getD w 0 = nvF (fun k => b (i + k)) (e - i)))) := by
    intro n
    induction n with
    | zero => intro k _ h; omega
    | succ n ih =>
      intro k hk hn hx
      rw [f_X6_isWord_3]
      by_cases e8 : k = 8
      · subst e8
        rw [decide_eq_true (wi.mp hx)]
        simp (disch := omega) only [↓bnd_i, ↓cal_s, ↓cal_n, ↓cal2_s, ↓cal2_n, cal_s, cal2_s, ↓reduceIte, fa_lit, m1_lit, m2_lit, m1_lt, m2_lt, m1_eq, m2_eq, m1_le, m2_le, le_m1, le_m2, lt_m1, lt_m2, m12, m21, m1_m1, n_lt, n_le, n_eq, lt_t, lt_f, le_t, le_f, eq_t, eq_f, n_cl, inb_ok, n_add, pk_mul, pk_sub, n_rem, n_div, n_dec, n_mx, n_mn, eq_m1, eq_m2, ss_same, ss_ne, ss_r, ss_l, sr_f, sr_l, sr_same, sr_ne, sw_f, sw_l, sw_at, sw_ne, pk_us, pk_un, bI_t, bI_f, not_true_eq_false, not_false_eq_true, eq_self, and_true, true_and, and_false, false_and, or_true, true_or, or_false, false_or, decide_true, decide_false, Bool.false_eq_true, Bool.true_eq_false]
      · have hc := d_charAt (F := F) (σ := σ) hw (show k < 8 by omega)
        have hc' : f_J0_charAt_5068e F 0 σ (nI (w * 8 + k)) = some (nI (wB w k)) := by rw [Nat.mul_comm]; exact hc
        have wl := (w_byt w hw k (by omega)).2
        have nxt : (if k < e - i then b (i + k) else 32) = wB w k → f_X6_isWord_3 F n σ (nI i) (nI e) (nI w) (nI (k + 1)) = some (bI (decide (kyN.getD w 0 = nvF (fun k => b (i + k)) (e - i)))) := fun q => ih (k + 1) (by omega) (by omega) (fun x hx' => by
          by_cases d : x = k
          · rw [d]; exact q
          · exact hx x (by omega))
        by_cases d : k < e - i
        · obtain ⟨x1, x2⟩ := hb (i + k) (by omega)
          rw [if_pos d] at nxt
          by_cases q : b (i + k) = wB w k
          · simp (disch := omega) only [↓bnd_i, ↓cal_s, ↓cal_n, ↓cal2_s, ↓cal2_n, cal_s, cal2_s, ↓reduceIte, fa_lit, m1_lit, m2_lit, m1_lt, m2_lt, m1_eq, m2_eq, m1_le, m2_le, le_m1, le_m2, lt_m1, lt_m2, m12, m21, m1_m1, n_lt, n_le, n_eq, lt_t, lt_f, le_t, le_f, eq_t, eq_f, n_cl, inb_ok, n_add, pk_mul, pk_sub, n_rem, n_div, n_dec, n_mx, n_mn, eq_m1, eq_m2, ss_same, ss_ne, ss_r, ss_l, sr_f, sr_l, sr_same, sr_ne, sw_f, sw_l, sw_at, sw_ne, pk_us, pk_un, bI_t, bI_f, not_true_eq_false, not_false_eq_true, eq_self, and_true, true_and, and_false, false_and, or_true, true_or, or_false, false_or, decide_true, decide_false, Bool.false_eq_true, Bool.true_eq_false, ↓cal_w (hc'), hc', x1, f_X6_isWord_33]
            exact nxt q
          · rw [decide_eq_false (fun h => by
              have := wi.mpr h k (by omega)
              rw [if_pos d] at this
              exact q this)]
            simp (disch := omega) only [↓bnd_i, ↓cal_s, ↓cal_n, ↓cal2_s, ↓cal2_n, cal_s, cal2_s, ↓reduceIte, fa_lit, m1_lit, m2_lit, m1_lt, m2_lt, m1_eq, m2_eq, m1_le, m2_le, le_m1, le_m2, lt_m1, lt_m2, m12, m21, m1_m1, n_lt, n_le, n_eq, lt_t, lt_f, le_t, le_f, eq_t, eq_f, n_cl, inb_ok, n_add, pk_mul, pk_sub, n_rem, n_div, n_dec, n_mx, n_mn, eq_m1, eq_m2, ss_same, ss_ne, ss_r, ss_l, sr_f, sr_l, sr_same, sr_ne, sw_f, sw_l, sw_at, sw_ne, pk_us, pk_un, bI_t, bI_f, not_true_eq_false, not_false_eq_true, eq_self, and_true, true_and, and_false, false_and, or_true, true_or, or_false, false_or, decide_true, decide_false, Bool.false_eq_true, Bool.true_eq_false, ↓cal_w (hc'), hc', x1, f_X6_isWord_33]
        · rw [if_neg d] at nxt
          by_cases q : 32 = wB w k
          · simp (disch := omega) only [↓bnd_i, ↓cal_s, ↓cal_n, ↓cal2_s, ↓cal2_n, cal_s, cal2_s, ↓reduceIte, fa_lit, m1_lit, m2_lit, m1_lt, m2_lt, m1_eq, m2_eq, m1_le, m2_le, le_m1, le_m2, lt_m1, lt_m2, m12, m21, m1_m1, n_lt, n_le, n_eq, lt_t, lt_f, le_t, le_f, eq_t, eq_f, n_cl, inb_ok, n_add, pk_mul, pk_sub, n_rem, n_div, n_dec, n_mx, n_mn, eq_m1, eq_m2, ss_same, ss_ne, ss_r, ss_l, sr_f, sr_l, sr_same, sr_ne, sw_f, sw_l, sw_at, sw_ne, pk_us, pk_un, bI_t, bI_f, not_true_eq_false, not_false_eq_true, eq_self, and_true, true_and, and_false, false_and, or_true, true_or, or_false, false_or, decide_true, decide_false, Bool.false_eq_true, Bool.true_eq_false, ↓cal_w (hc'), hc', f_X6_isWord_33]
            exact nxt q
          · rw [decide_eq_false (fun h => by
              have := wi.mpr h k (by omega)
              rw [if_neg d] at this
              exact q this)]
            simp (disch := omega) only [↓bnd_i, ↓cal_s, ↓cal_n, ↓cal2_s, ↓cal2_n, cal_s, cal2_s, ↓reduceIte, fa_lit, m1_lit, m2_lit, m1_lt, m2_lt, m1_eq, m2_eq, m1_le, m2_le, le_m1, le_m2, lt_m1, lt_m2, m12, m21, m1_m1, n_lt, n_le, n_eq, lt_t, lt_f, le_t, le_f, eq_t, eq_f, n_cl, inb_ok, n_add, pk_mul, pk_sub, n_rem, n_div, n_dec, n_mx, n_mn, eq_m1, eq_m2, ss_same, ss_ne, ss_r, ss_l, sr_f, sr_l, sr_same, sr_ne, sw_f, sw_l, sw_at, sw_ne, pk_us, pk_un, bI_t, bI_f, not_true_eq_false, not_false_eq_true, eq_self, and_true, true_and, and_false, false_and, or_true, true_or, or_false, false_or, decide_true, decide_false, Bool.false_eq_true, Bool.true_eq_false, ↓cal_w (hc'), hc', f_X6_isWord_33]
  exact key F 0 (by omega) (by omega) (fun x h => by omega)
theorem d_wordAt {F : Nat} (hF : 100 < F) {b : Nat → Nat} {L : Nat} {σ : St} (T : TxD b L σ) {i e : Nat} (hi : i < e) (he : e ≤ L) (hl : ∀ j, i ≤ j → j < e → isLt (b j) = true) : f_X6_wordAt F σ (nI i) (nI e) = some (nI (if e - i ≤ 8 then wK (nvF (fun k => b (i + k)) (e - i)) else 30)) := by
  have hL := T.1
  unfold f_X6_wordAt
  by_cases c : e - i ≤ 8
  · have key : ∀ m n w, w + m = 20 → m < n → f_X6_wordAt_13 F n σ (nI i) (nI e) (nI w) = some (nI (wkF (nvF (fun k => b (i + k)) (e - i)) m w)) := by
      intro m
      induction m with
      | zero =>
        intro n w hw hn
        obtain ⟨n, rfl⟩ : ∃ k, n = k + 1 := ⟨n - 1, by omega⟩
        rw [f_X6_wordAt_13, wkF]
        simp (disch := omega) only [↓bnd_i, ↓cal_s, ↓cal_n, ↓cal2_s, ↓cal2_n, cal_s, cal2_s, ↓reduceIte, fa_lit, m1_lit, m2_lit, m1_lt, m2_lt, m1_eq, m2_eq, m1_le, m2_le, le_m1, le_m2, lt_m1, lt_m2, m12, m21, m1_m1, n_lt, n_le, n_eq, lt_t, lt_f, le_t, le_f, eq_t, eq_f, n_cl, inb_ok, n_add, pk_mul, pk_sub, n_rem, n_div, n_dec, n_mx, n_mn, eq_m1, eq_m2, ss_same, ss_ne, ss_r, ss_l, sr_f, sr_l, sr_same, sr_ne, sw_f, sw_l, sw_at, sw_ne, pk_us, pk_un, bI_t, bI_f, not_true_eq_false, not_false_eq_true, eq_self, and_true, true_and, and_false, false_and, or_true, true_or, or_false, false_or, decide_true, decide_false, Bool.false_eq_true, Bool.true_eq_false]
      | succ m ih =>
        intro n w hw hn
        obtain ⟨n, rfl⟩ : ∃ k, n = k + 1 := ⟨n - 1, by omega⟩
        have ih' := ih n (w + 1) (by omega) (by omega)
        have wd := d_isWord (F := F) hF T (show i ≤ e by omega) he (show w < 20 by omega) c hl
        rw [f_X6_wordAt_13, wkF]
        by_cases q : kyN.getD w 0 = nvF (fun k => b (i + k)) (e - i)
        · rw [decide_eq_true q] at wd
          rw [if_pos q]
          simp (disch := omega) only [↓bnd_i, ↓cal_s, ↓cal_n, ↓cal2_s, ↓cal2_n, cal_s, cal2_s, ↓reduceIte, fa_lit, m1_lit, m2_lit, m1_lt, m2_lt, m1_eq, m2_eq, m1_le, m2_le, le_m1, le_m2, lt_m1, lt_m2, m12, m21, m1_m1, n_lt, n_le, n_eq, lt_t, lt_f, le_t, le_f, eq_t, eq_f, n_cl, inb_ok, n_add, pk_mul, pk_sub, n_rem, n_div, n_dec, n_mx, n_mn, eq_m1, eq_m2, ss_same, ss_ne, ss_r, ss_l, sr_f, sr_l, sr_same, sr_ne, sw_f, sw_l, sw_at, sw_ne, pk_us, pk_un, bI_t, bI_f, not_true_eq_false, not_false_eq_true, eq_self, and_true, true_and, and_false, false_and, or_true, true_or, or_false, false_or, decide_true, decide_false, Bool.false_eq_true, Bool.true_eq_false, ↓cal_w (wd), wd]
        · rw [decide_eq_false q] at wd
          rw [if_neg q]
          simp (disch := omega) only [↓bnd_i, ↓cal_s, ↓cal_n, ↓cal2_s, ↓cal2_n, cal_s, cal2_s, ↓reduceIte, fa_lit, m1_lit, m2_lit, m1_lt, m2_lt, m1_eq, m2_eq, m1_le, m2_le, le_m1, le_m2, lt_m1, lt_m2, m12, m21, m1_m1, n_lt, n_le, n_eq, lt_t, lt_f, le_t, le_f, eq_t, eq_f, n_cl, inb_ok, n_add, pk_mul, pk_sub, n_rem, n_div, n_dec, n_mx, n_mn, eq_m1, eq_m2, ss_same, ss_ne, ss_r, ss_l, sr_f, sr_l, sr_same, sr_ne, sw_f, sw_l, sw_at, sw_ne, pk_us, pk_un, bI_t, bI_f, not_true_eq_false, not_false_eq_true, eq_self, and_true, true_and, and_false, false_and, or_true, true_or, or_false, false_or, decide_true, decide_false, Bool.false_eq_true, Bool.true_eq_false, ↓cal_w (wd), wd]
          exact ih'
    have k := key 20 F 0 (by omega) (by omega)
    rw [if_pos c]
    simp (disch := omega) only [↓bnd_i, ↓cal_s, ↓cal_n, ↓cal2_s, ↓cal2_n, cal_s, cal2_s, ↓reduceIte, fa_lit, m1_lit, m2_lit, m1_lt, m2_lt, m1_eq, m2_eq, m1_le, m2_le, le_m1, le_m2, lt_m1, lt_m2, m12, m21, m1_m1, n_lt, n_le, n_eq, lt_t, lt_f, le_t, le_f, eq_t, eq_f, n_cl, inb_ok, n_add, pk_mul, pk_sub, n_rem, n_div, n_dec, n_mx, n_mn, eq_m1, eq_m2, ss_same, ss_ne, ss_r, ss_l, sr_f, sr_l, sr_same, sr_ne, sw_f, sw_l, sw_at, sw_ne, pk_us, pk_un, bI_t, bI_f, not_true_eq_false, not_false_eq_true, eq_self, and_true, true_and, and_false, false_and, or_true, true_or, or_false, false_or, decide_true, decide_false, Bool.false_eq_true, Bool.true_eq_false]
    exact k
  · rw [if_neg c]
    simp (disch := omega) only [↓bnd_i, ↓cal_s, ↓cal_n, ↓cal2_s, ↓cal2_n, cal_s, cal2_s, ↓reduceIte, fa_lit, m1_lit, m2_lit, m1_lt, m2_lt, m1_eq, m2_eq, m1_le, m2_le, le_m1, le_m2, lt_m1, lt_m2, m12, m21, m1_m1, n_lt, n_le, n_eq, lt_t, lt_f, le_t, le_f, eq_t, eq_f, n_cl, inb_ok, n_add, pk_mul, pk_sub, n_rem, n_div, n_dec, n_mx, n_mn, eq_m1, eq_m2, ss_same, ss_ne, ss_r, ss_l, sr_f, sr_l, sr_same, sr_ne, sw_f, sw_l, sw_at, sw_ne, pk_us, pk_un, bI_t, bI_f, not_true_eq_false, not_false_eq_true, eq_self, and_true, true_and, and_false, false_and, or_true, true_or, or_false, false_or, decide_true, decide_false, Bool.false_eq_true, Bool.true_eq_false]
theorem i8n' : ∀ c, c < 256 → 128 ≤ c → Int8.toInt32 (Int32.toInt8 (nI c)) < nI 0 := by decide +kernel
theorem i8n (c : Nat) (h1 : 128 ≤ c) (h2 : c < 256) : Int8.toInt32 (Int32.toInt8 (nI c)) < nI 0 := i8n' c h2 h1
theorem i8p : ∀ c, c < 128 → Int8.toInt32 (Int32.toInt8 (nI c)) = nI c := by decide +kernel
theorem ch16 : ∀ c, c < 256 → UInt32.toInt32 (Int32.toUInt32 (nI c) % 65536) = nI c := by decide +kernel
def sgB : List Nat := [59, 43, 45, 42, 47, 37, 40, 41]
theorem sg_byt : ∀ k, k < 8 → (bytS.getD 1 []).getD k 0 = nI (sgB.getD k 0) ∧ sgB.getD k 0 < 128 := by decide +kernel
def sgF (c : Nat) : Nat → Nat → Option Nat
  | 0, _ => none
  | m + 1, k => if sgB.getD k 0 = c then some k else sgF c m (k + 1)
theorem sgF_K (c : Nat) : (match sgF c 8 0 with | none => 30 | some k => 21 + k) = sgK c := by
  simp only [sgF, sgK, sgB, List.getD_cons_zero, List.getD_cons_succ]
  by_cases h1 : c = 59
  · simp [h1]
  · by_cases h2 : c = 43
    · simp [h2]
    · by_cases h3 : c = 45
      · simp [h3]
      · by_cases h4 : c = 42
        · simp [h4]
        · by_cases h5 : c = 47
          · simp [h5]
          · by_cases h6 : c = 37
            · simp [h6]
            · by_cases h7 : c = 40
              · simp [h7]
              · by_cases h8 : c = 41
                · simp [h8]
                · simp only [h1, h2, h3, h4, h5, h6, h7, h8, if_false, eq_false (Ne.symm h1), eq_false (Ne.symm h2), eq_false (Ne.symm h3), eq_false (Ne.symm h4), eq_false (Ne.symm h5), eq_false (Ne.symm h6), eq_false (Ne.symm h7), eq_false (Ne.symm h8)]
def oX1 : Option Nat → Int32
  | none => m1
  | some k => nI k
theorem sgF_lt (c : Nat) : ∀ m k r, sgF c m k = some r → r < k + m
  | 0, k, r, h => by cases h
  | m + 1, k, r, h => by
    rw [sgF] at h
    split at h
    · cases h; omega
    · have := sgF_lt c m (k + 1) r h
      omega
theorem d_indexOf {F : Nat} (hF : 100 < F) {σ : St} {c : Nat} (h : c < 256) : f_J0_indexOf_0f7a4 F 1 σ (nI c) = some (oX1 (sgF c 8 0)) := by
  have l1 : lenS.getD 1 0 = 8 := rfl
  have z8 : (nI 8 >>> (nI 0 &&& nI 31)) = nI 8 := by decide +kernel
  have hb0 : idB (nI 0) = true := by decide +kernel
  have key : ∀ m n k, k + m = 8 → m < n → f_J1_indexOfChar_4cfef_7 F 1 n σ (nI 8) (Int8.toInt32 (Int32.toInt8 (nI c))) (nI k) = some (oX1 (sgF c m k)) := by
    intro m
    induction m with
    | zero =>
      intro n k hk hn
      obtain ⟨n, rfl⟩ : ∃ k, n = k + 1 := ⟨n - 1, by omega⟩
      rw [f_J1_indexOfChar_4cfef_7, sgF]
      simp (disch := omega) only [↓bnd_i, ↓cal_s, ↓cal_n, ↓cal2_s, ↓cal2_n, cal_s, cal2_s, ↓reduceIte, fa_lit, m1_lit, m2_lit, m1_lt, m2_lt, m1_eq, m2_eq, m1_le, m2_le, le_m1, le_m2, lt_m1, lt_m2, m12, m21, m1_m1, n_lt, n_le, n_eq, lt_t, lt_f, le_t, le_f, eq_t, eq_f, n_cl, inb_ok, n_add, pk_mul, pk_sub, n_rem, n_div, n_dec, n_mx, n_mn, eq_m1, eq_m2, ss_same, ss_ne, ss_r, ss_l, sr_f, sr_l, sr_same, sr_ne, sw_f, sw_l, sw_at, sw_ne, pk_us, pk_un, bI_t, bI_f, not_true_eq_false, not_false_eq_true, eq_self, and_true, true_and, and_false, false_and, or_true, true_or, or_false, false_or, decide_true, decide_false, Bool.false_eq_true, Bool.true_eq_false, oX1]
    | succ m ih =>
      intro n k hk hn
      obtain ⟨n, rfl⟩ : ∃ k, n = k + 1 := ⟨n - 1, by omega⟩
      have ih' := ih n (k + 1) (by omega) (by omega)
      obtain ⟨x1, x2⟩ := sg_byt k (by omega)
      have e1 : ((bytS.getD 1 []).getD k 0 = Int8.toInt32 (Int32.toInt8 (nI c))) = (sgB.getD k 0 = c) := by
        rw [x1]
        by_cases d : c < 128
        · rw [i8p c d, n_eq (by omega) (by omega)]
        · have := i8n c (by omega) h
          exact propext ⟨fun q => absurd q.symm (neg_ne this (by omega)), fun q => by omega⟩
      have e1' : ((bytS.getD 1 []).getD k (nI 0) = Int8.toInt32 (Int32.toInt8 (nI c))) = (sgB.getD k 0 = c) := e1
      rw [f_J1_indexOfChar_4cfef_7, sgF]
      by_cases d : sgB.getD k 0 = c
      · rw [if_pos d]
        simp (disch := omega) only [↓bnd_i, ↓cal_s, ↓cal_n, ↓cal2_s, ↓cal2_n, cal_s, cal2_s, ↓reduceIte, fa_lit, m1_lit, m2_lit, m1_lt, m2_lt, m1_eq, m2_eq, m1_le, m2_le, le_m1, le_m2, lt_m1, lt_m2, m12, m21, m1_m1, n_lt, n_le, n_eq, lt_t, lt_f, le_t, le_f, eq_t, eq_f, n_cl, inb_ok, n_add, pk_mul, pk_sub, n_rem, n_div, n_dec, n_mx, n_mn, eq_m1, eq_m2, ss_same, ss_ne, ss_r, ss_l, sr_f, sr_l, sr_same, sr_ne, sw_f, sw_l, sw_at, sw_ne, pk_us, pk_un, bI_t, bI_f, not_true_eq_false, not_false_eq_true, eq_self, and_true, true_and, and_false, false_and, or_true, true_or, or_false, false_or, decide_true, decide_false, Bool.false_eq_true, Bool.true_eq_false, l1, e1', eq_true d, oX1]
      · rw [if_neg d]
        simp (disch := omega) only [↓bnd_i, ↓cal_s, ↓cal_n, ↓cal2_s, ↓cal2_n, cal_s, cal2_s, ↓reduceIte, fa_lit, m1_lit, m2_lit, m1_lt, m2_lt, m1_eq, m2_eq, m1_le, m2_le, le_m1, le_m2, lt_m1, lt_m2, m12, m21, m1_m1, n_lt, n_le, n_eq, lt_t, lt_f, le_t, le_f, eq_t, eq_f, n_cl, inb_ok, n_add, pk_mul, pk_sub, n_rem, n_div, n_dec, n_mx, n_mn, eq_m1, eq_m2, ss_same, ss_ne, ss_r, ss_l, sr_f, sr_l, sr_same, sr_ne, sw_f, sw_l, sw_at, sw_ne, pk_us, pk_un, bI_t, bI_f, not_true_eq_false, not_false_eq_true, eq_self, and_true, true_and, and_false, false_and, or_true, true_or, or_false, false_or, decide_true, decide_false, Bool.false_eq_true, Bool.true_eq_false, l1, e1', eq_false d]
        exact ih'
  have k := key 8 F 0 (by omega) (by omega)
  unfold f_J0_indexOf_0f7a4 f_J0_indexOf_7cf53 f_J0_isLatin1_aae02 f_J0_length_8abf5 f_J0_coder_7d493 f_J1_indexOf_4cfef f_J1_canEncode_9a6ad f_J1_indexOfChar_4cfef
  simp (disch := omega) only [↓bnd_i, ↓cal_s, ↓cal_n, ↓cal2_s, ↓cal2_n, cal_s, cal2_s, ↓reduceIte, fa_lit, m1_lit, m2_lit, m1_lt, m2_lt, m1_eq, m2_eq, m1_le, m2_le, le_m1, le_m2, lt_m1, lt_m2, m12, m21, m1_m1, n_lt, n_le, n_eq, lt_t, lt_f, le_t, le_f, eq_t, eq_f, n_cl, inb_ok, n_add, pk_mul, pk_sub, n_rem, n_div, n_dec, n_mx, n_mn, eq_m1, eq_m2, ss_same, ss_ne, ss_r, ss_l, sr_f, sr_l, sr_same, sr_ne, sw_f, sw_l, sw_at, sw_ne, pk_us, pk_un, bI_t, bI_f, not_true_eq_false, not_false_eq_true, eq_self, and_true, true_and, and_false, false_and, or_true, true_or, or_false, false_or, decide_true, decide_false, Bool.false_eq_true, Bool.true_eq_false, ↓cal_w (k), k, l1, show Int32.ofNat 8 = nI 8 from rfl, z8, hb0, show max 0 0 = 0 from rfl, show min 8 8 = 8 from rfl, show max 8 8 = 8 from rfl]
theorem d_kindOf {F : Nat} (hF : 2100 < F) {b : Nat → Nat} {L : Nat} {σ : St} (T : TxD b L σ) {i : Nat} (hi : i < L) : f_X6_kindOf F σ (nI i) (nI (tE b L i)) = some (nI (tK b L i)) := by
  have hL := T.1
  obtain ⟨x1, x2⟩ := T.2 i hi
  obtain ⟨t1, t2⟩ := tE_P (b := b) hi
  have w1 := d_isLetter (F := F) (σ := σ) x2
  have w2 := d_isDigit (F := F) (σ := σ) x2
  unfold f_X6_kindOf tK
  cases c : isLt (b i)
  · rw [c] at w1
    simp only [Bool.false_eq_true, if_false]
    cases d : isDg (b i)
    · rw [d] at w2
      have w3 := d_indexOf (F := F) (by omega) (σ := σ) x2
      simp only [Bool.false_eq_true, if_false]
      rw [← sgF_K]
      cases q : sgF (b i) 8 0 with
      | none =>
        rw [q] at w3
        simp (disch := omega) only [↓bnd_i, ↓cal_s, ↓cal_n, ↓cal2_s, ↓cal2_n, cal_s, cal2_s, ↓reduceIte, fa_lit, m1_lit, m2_lit, m1_lt, m2_lt, m1_eq, m2_eq, m1_le, m2_le, le_m1, le_m2, lt_m1, lt_m2, m12, m21, m1_m1, n_lt, n_le, n_eq, lt_t, lt_f, le_t, le_f, eq_t, eq_f, n_cl, inb_ok, n_add, pk_mul, pk_sub, n_rem, n_div, n_dec, n_mx, n_mn, eq_m1, eq_m2, ss_same, ss_ne, ss_r, ss_l, sr_f, sr_l, sr_same, sr_ne, sw_f, sw_l, sw_at, sw_ne, pk_us, pk_un, bI_t, bI_f, not_true_eq_false, not_false_eq_true, eq_self, and_true, true_and, and_false, false_and, or_true, true_or, or_false, false_or, decide_true, decide_false, Bool.false_eq_true, Bool.true_eq_false, ↓cal_w (w1), w1, ↓cal_w (w2), w2, ↓cal_w (w3), w3, x1, ch16 _ x2, oX1]
      | some k =>
        rw [q] at w3
        have := sgF_lt _ _ _ _ q
        simp (disch := omega) only [↓bnd_i, ↓cal_s, ↓cal_n, ↓cal2_s, ↓cal2_n, cal_s, cal2_s, ↓reduceIte, fa_lit, m1_lit, m2_lit, m1_lt, m2_lt, m1_eq, m2_eq, m1_le, m2_le, le_m1, le_m2, lt_m1, lt_m2, m12, m21, m1_m1, n_lt, n_le, n_eq, lt_t, lt_f, le_t, le_f, eq_t, eq_f, n_cl, inb_ok, n_add, pk_mul, pk_sub, n_rem, n_div, n_dec, n_mx, n_mn, eq_m1, eq_m2, ss_same, ss_ne, ss_r, ss_l, sr_f, sr_l, sr_same, sr_ne, sw_f, sw_l, sw_at, sw_ne, pk_us, pk_un, bI_t, bI_f, not_true_eq_false, not_false_eq_true, eq_self, and_true, true_and, and_false, false_and, or_true, true_or, or_false, false_or, decide_true, decide_false, Bool.false_eq_true, Bool.true_eq_false, ↓cal_w (w1), w1, ↓cal_w (w2), w2, ↓cal_w (w3), w3, x1, ch16 _ x2, oX1]
    · rw [d] at w2
      simp only [if_true]
      by_cases e : tE b L i - i ≤ 4
      · rw [if_pos e]
        simp (disch := omega) only [↓bnd_i, ↓cal_s, ↓cal_n, ↓cal2_s, ↓cal2_n, cal_s, cal2_s, ↓reduceIte, fa_lit, m1_lit, m2_lit, m1_lt, m2_lt, m1_eq, m2_eq, m1_le, m2_le, le_m1, le_m2, lt_m1, lt_m2, m12, m21, m1_m1, n_lt, n_le, n_eq, lt_t, lt_f, le_t, le_f, eq_t, eq_f, n_cl, inb_ok, n_add, pk_mul, pk_sub, n_rem, n_div, n_dec, n_mx, n_mn, eq_m1, eq_m2, ss_same, ss_ne, ss_r, ss_l, sr_f, sr_l, sr_same, sr_ne, sw_f, sw_l, sw_at, sw_ne, pk_us, pk_un, bI_t, bI_f, not_true_eq_false, not_false_eq_true, eq_self, and_true, true_and, and_false, false_and, or_true, true_or, or_false, false_or, decide_true, decide_false, Bool.false_eq_true, Bool.true_eq_false, ↓cal_w (w1), w1, ↓cal_w (w2), w2, x1]
      · rw [if_neg e]
        simp (disch := omega) only [↓bnd_i, ↓cal_s, ↓cal_n, ↓cal2_s, ↓cal2_n, cal_s, cal2_s, ↓reduceIte, fa_lit, m1_lit, m2_lit, m1_lt, m2_lt, m1_eq, m2_eq, m1_le, m2_le, le_m1, le_m2, lt_m1, lt_m2, m12, m21, m1_m1, n_lt, n_le, n_eq, lt_t, lt_f, le_t, le_f, eq_t, eq_f, n_cl, inb_ok, n_add, pk_mul, pk_sub, n_rem, n_div, n_dec, n_mx, n_mn, eq_m1, eq_m2, ss_same, ss_ne, ss_r, ss_l, sr_f, sr_l, sr_same, sr_ne, sw_f, sw_l, sw_at, sw_ne, pk_us, pk_un, bI_t, bI_f, not_true_eq_false, not_false_eq_true, eq_self, and_true, true_and, and_false, false_and, or_true, true_or, or_false, false_or, decide_true, decide_false, Bool.false_eq_true, Bool.true_eq_false, ↓cal_w (w1), w1, ↓cal_w (w2), w2, x1]
  · rw [c] at w1
    simp only [if_true]
    have ee : tE b L i = re b L isLt i := by unfold tE; rw [c]; rfl
    have r := re_P (b := b) (P := isLt) (i := i) (L := L) (by omega)
    have w3 := d_wordAt (F := F) (by omega) T t1 t2 (fun j h1 h2 => r.2.2.1 j h1 (by rw [← ee]; exact h2))
    simp (disch := omega) only [↓bnd_i, ↓cal_s, ↓cal_n, ↓cal2_s, ↓cal2_n, cal_s, cal2_s, ↓reduceIte, fa_lit, m1_lit, m2_lit, m1_lt, m2_lt, m1_eq, m2_eq, m1_le, m2_le, le_m1, le_m2, lt_m1, lt_m2, m12, m21, m1_m1, n_lt, n_le, n_eq, lt_t, lt_f, le_t, le_f, eq_t, eq_f, n_cl, inb_ok, n_add, pk_mul, pk_sub, n_rem, n_div, n_dec, n_mx, n_mn, eq_m1, eq_m2, ss_same, ss_ne, ss_r, ss_l, sr_f, sr_l, sr_same, sr_ne, sw_f, sw_l, sw_at, sw_ne, pk_us, pk_un, bI_t, bI_f, not_true_eq_false, not_false_eq_true, eq_self, and_true, true_and, and_false, false_and, or_true, true_or, or_false, false_or, decide_true, decide_false, Bool.false_eq_true, Bool.true_eq_false, ↓cal_w (w1), w1, ↓cal_w (w3), w3, x1]
theorem nmF_le {a : Nat → Nat} : ∀ m, m ≤ 4 → (∀ k, k < m → 48 ≤ a k ∧ a k ≤ 57) → nmF a m < 10 ^ m
  | 0, _, _ => by simp [nmF]
  | m + 1, hm, h => by
    have := nmF_le m (by omega) (fun k hk => h k (by omega))
    have := h m (by omega)
    rw [nmF, Nat.pow_succ]
    omega
theorem d_numberOf {F : Nat} (hF : 2100 < F) {b : Nat → Nat} {L : Nat} {σ : St} (T : TxD b L σ) {i : Nat} (hi : i < L) (hd : isDg (b i) = true) (hl : isLt (b i) = false) (h4 : tE b L i - i ≤ 4) : f_X6_numberOf F σ (nI i) (nI (tE b L i)) = some (nI (tV b L i)) := by
  have hL := T.1
  obtain ⟨t1, t2⟩ := tE_P (b := b) hi
  have ee : tE b L i = re b L isDg i := by unfold tE; rw [hl, hd]; rfl
  have r := re_P (b := b) (P := isDg) (i := i) (L := L) (by omega)
  have hdg : ∀ k, k < tE b L i - i → 48 ≤ b (i + k) ∧ b (i + k) ≤ 57 := fun k hk => of_decide_eq_true (r.2.2.1 (i + k) (by omega) (by omega))
  have key : ∀ n k, k ≤ tE b L i - i → tE b L i - i - k < n → f_X6_numberOf_5 F n σ (nI (tE b L i)) (nI (nmF (fun k => b (i + k)) k)) (nI (i + k)) = some (nI (tV b L i)) := by
    intro n
    induction n with
    | zero => intro k _ h; omega
    | succ n ih =>
      intro k hk hn
      rw [f_X6_numberOf_5]
      by_cases e : k = tE b L i - i
      · rw [e]
        simp (disch := omega) only [↓bnd_i, ↓cal_s, ↓cal_n, ↓cal2_s, ↓cal2_n, cal_s, cal2_s, ↓reduceIte, fa_lit, m1_lit, m2_lit, m1_lt, m2_lt, m1_eq, m2_eq, m1_le, m2_le, le_m1, le_m2, lt_m1, lt_m2, m12, m21, m1_m1, n_lt, n_le, n_eq, lt_t, lt_f, le_t, le_f, eq_t, eq_f, n_cl, inb_ok, n_add, pk_mul, pk_sub, n_rem, n_div, n_dec, n_mx, n_mn, eq_m1, eq_m2, ss_same, ss_ne, ss_r, ss_l, sr_f, sr_l, sr_same, sr_ne, sw_f, sw_l, sw_at, sw_ne, pk_us, pk_un, bI_t, bI_f, not_true_eq_false, not_false_eq_true, eq_self, and_true, true_and, and_false, false_and, or_true, true_or, or_false, false_or, decide_true, decide_false, Bool.false_eq_true, Bool.true_eq_false]
        rfl
      · have ih' := ih (k + 1) (by omega) (by omega)
        obtain ⟨x1, x2⟩ := T.2 (i + k) (by omega)
        have dk := hdg k (by omega)
        have b1 := nmF_le (a := fun k => b (i + k)) k (by omega) (fun x hx => hdg x (by omega))
        have b2 : (10 : Nat) ^ k ≤ 10 ^ 4 := Nat.pow_le_pow_right (by omega) (by omega)
        have e1 : nmF (fun k => b (i + k)) (k + 1) = nmF (fun k => b (i + k)) k * 10 + b (i + k) - 48 := by
          rw [nmF]; omega
        rw [e1] at ih'
        simp (disch := omega) only [↓bnd_i, ↓cal_s, ↓cal_n, ↓cal2_s, ↓cal2_n, cal_s, cal2_s, ↓reduceIte, fa_lit, m1_lit, m2_lit, m1_lt, m2_lt, m1_eq, m2_eq, m1_le, m2_le, le_m1, le_m2, lt_m1, lt_m2, m12, m21, m1_m1, n_lt, n_le, n_eq, lt_t, lt_f, le_t, le_f, eq_t, eq_f, n_cl, inb_ok, n_add, pk_mul, pk_sub, n_rem, n_div, n_dec, n_mx, n_mn, eq_m1, eq_m2, ss_same, ss_ne, ss_r, ss_l, sr_f, sr_l, sr_same, sr_ne, sw_f, sw_l, sw_at, sw_ne, pk_us, pk_un, bI_t, bI_f, not_true_eq_false, not_false_eq_true, eq_self, and_true, true_and, and_false, false_and, or_true, true_or, or_false, false_or, decide_true, decide_false, Bool.false_eq_true, Bool.true_eq_false, x1, Nat.add_assoc]
        exact ih'
  exact key F 0 (by omega) (by omega)
