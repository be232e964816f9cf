/-! PURE: what 'now' must be, and the desk's rows beside it -/
/-- how a piece is kept -/
def kp (N : Nat → Int32) (l k : Nat) : Nat := (N (420 + 120 * l + k)).toNatClampNeg
/-- the pieces -/
def N3 (N : Nat → Int32) : Prop := (∀ l k, l < 8 → k < 120 → N (420 + 120 * l + k) = nI (kp N l k) ∧ kp N l k < 4) ∧ ∀ l k, nl N ≤ l → l < 8 → k < 120 → kp N l k = 0
/-- where a record stands -/
abbrev ra (l p : Nat) : Nat := 1380 + 3 * (241 * l + p)
/-- the records -/
def N4 (N : Nat → Int32) : Prop := ∀ l p, l < nl N → fk N l < p → p ≤ tp N l → ∃ s, s < 4 ∧ N (ra l p) = nI s ∧ (s < 2 → ∃ g, g < pg N ∧ N (ra l p + 1) = nI g)
/-- upon which a copy is; none: upon none -/
def up (N : Nat → Int32) (c : Nat) : Option Nat := if N (60 + 4 * c + 1) < 0 then none else some (N (60 + 4 * c + 1)).toNatClampNeg
def co (N : Nat → Int32) (c : Nat) : Bool := decide (N (60 + 4 * c + 2) = 1)
def cd (N : Nat → Int32) (c : Nat) : Bool := decide (N (60 + 4 * c + 3) = 1)
/-- whether a page is taken by a copy itself -/
def tk (N : Nat → Int32) (c g : Nat) : Bool := decide (N (100 + 4 * (8 * c + g)) = 1)
/-- the line and the place it was taken of, its value -/
def tl (N : Nat → Int32) (c g : Nat) : Nat := (N (100 + 4 * (8 * c + g) + 1)).toNatClampNeg
def tw (N : Nat → Int32) (c g : Nat) : Nat := (N (100 + 4 * (8 * c + g) + 2)).toNatClampNeg
/-- the copies -/
def N5 (N : Nat → Int32) : Prop := ∀ c, c < nc N → (N (60 + 4 * c + 1) = m2 ∨ ∃ u, u < c ∧ N (60 + 4 * c + 1) = nI u) ∧ N (60 + 4 * c + 2) = bI (co N c) ∧ N (60 + 4 * c + 3) = bI (cd N c) ∧ ∀ g, g < 8 → N (100 + 4 * (8 * c + g)) = bI (tk N c g) ∧ (tk N c g = true → g < pg N ∧ N (100 + 4 * (8 * c + g) + 1) = nI (tl N c g) ∧ tl N c g < 8 ∧ N (100 + 4 * (8 * c + g) + 2) = nI (tw N c g) ∧ tw N c g ≤ 240)
def NN (N : Nat → Int32) : Prop := N1 N ∧ N2 N ∧ N3 N ∧ N4 N ∧ N5 N
theorem NNb {N : Nat → Int32} (h : NN N) : 1 ≤ pg N ∧ pg N ≤ 8 ∧ 2 ≤ wd N ∧ wd N ≤ 8 ∧ 1 ≤ nl N ∧ nl N ≤ 8 ∧ md N ≤ 600 ∧ nc N ≤ 10 := by
  obtain ⟨⟨⟨-, a, b⟩, ⟨-, c, d⟩, ⟨-, e, f⟩, -, ⟨-, g⟩, ⟨-, i⟩, -⟩, -⟩ := h
  exact ⟨a, b, c, d, e, f, g, i⟩
/-- a set of the numbers below one -/
def bs (f : Nat → Bool) : Nat → Nat
  | 0 => 0
  | n + 1 => bs f n + if f n then 2 ^ n else 0
/-- records, pieces -/
def JR (σ : St) (N : Nat → Int32) : Prop := (∀ l p, l < nl N → fk N l < p → p ≤ tp N l → σ.2.1 15 (sm N l + p - fk N l - 1) = N (ra l p) ∧ σ.2.1 16 (sm N l + p - fk N l - 1) = N (ra l p + 1) ∧ σ.2.1 17 (sm N l + p - fk N l - 1) = N (ra l p + 2)) ∧ (∀ l k, l < nl N → k < 120 → σ.2.1 18 (120 * l + k) = nI (kp N l k)) ∧ (∀ i, i < 600 → ∃ s, s < 4 ∧ σ.2.1 15 i = nI s) ∧ ∀ i, i < 960 → ∃ s, s < 4 ∧ σ.2.1 18 i = nI s
/-- copies -/
def JX (σ : St) (N : Nat → Int32) : Prop := σ.1 9 = nI (bs (co N) (nc N)) ∧ σ.1 10 = nI (bs (cd N) (nc N)) ∧ ∀ c, c < nc N → σ.2.1 19 c = N (60 + 4 * c) ∧ σ.2.1 20 c = N (60 + 4 * c + 1) ∧ σ.2.1 21 c = nI (bs (tk N c) 8) ∧ ∀ g, g < 8 → tk N c g = true → σ.2.1 22 (8 * c + g) = nI (tl N c g) ∧ σ.2.1 23 (8 * c + g) = nI (tw N c g) ∧ σ.2.1 24 (8 * c + g) = N (100 + 4 * (8 * c + g) + 3)
def JJ (σ : St) (N : Nat → Int32) : Prop := JL σ N ∧ JR σ N ∧ JX σ N
theorem JJf {σ : St} {N : Nat → Int32} (h : NN N) (j : JJ σ N) : σ.1 4 = nI (pg N) ∧ σ.1 5 = nI (wd N) ∧ σ.1 6 = nI (nl N) ∧ σ.1 7 = nI (md N) ∧ σ.1 8 = nI (nc N) := by
  obtain ⟨⟨⟨a1, a2, a3, a4, a5⟩, -⟩, -⟩ := j
  obtain ⟨⟨⟨b1, -⟩, ⟨b2, -⟩, ⟨b3, -⟩, -, ⟨b4, -⟩, ⟨b5, -⟩, -⟩, -⟩ := h
  exact ⟨a1.trans b1, a2.trans b2, a3.trans b3, a4.trans b4, a5.trans b5⟩
theorem j_tip {σ : St} {N : Nat → Int32} (j : JJ σ N) {l : Nat} (hl : l < nl N) : σ.2.1 13 l = nI (tp N l) := (j.1.2.1 l hl).1
theorem j_fork {σ : St} {N : Nat → Int32} (j : JJ σ N) {l : Nat} (hl : l < nl N) : σ.2.1 12 l = nI (fk N l) := (j.1.2.1 l hl).2.1
theorem j_start {σ : St} {N : Nat → Int32} (j : JJ σ N) {l : Nat} (hl : l < nl N) : σ.2.1 14 l = nI (sm N l) := (j.1.2.1 l hl).2.2.1
theorem j_par {σ : St} {N : Nat → Int32} (j : JJ σ N) {l : Nat} (hl : l < nl N) (h0 : 0 < l) : σ.2.1 11 l = nI (pr N l) := (j.1.2.1 l hl).2.2.2 h0
theorem j_con {σ : St} {N : Nat → Int32} (j : JJ σ N) {l k : Nat} (hl : l < nl N) (hk : k < 120) : σ.2.1 18 (l * 120 + k) = nI (kp N l k) := by
  rw [Nat.mul_comm l 120]; exact j.2.1.2.1 l k hl hk
/-- what the desk's store leaves as it is -/
def Fr (σ σ' : St) : Prop := (∀ k, k < 4 ∨ 18 < k → σ'.1 k = σ.1 k) ∧ (∀ r, r < 11 ∨ 25 < r → σ'.2.1 r = σ.2.1 r) ∧ σ'.2.2 = σ.2.2
/-- what the model's doings leave as it is -/
def FrM (τ τ' : St) : Prop := (∀ k, k < 15 ∨ 18 < k → τ'.1 k = τ.1 k) ∧ (∀ r, r < 19 ∨ 21 < r → τ'.2.1 r = τ.2.1 r) ∧ τ'.2.2 = τ.2.2
theorem Fr.refl (σ : St) : Fr σ σ := ⟨fun _ _ => rfl, fun _ _ => rfl, rfl⟩
theorem Fr.trans {a b c : St} (h : Fr a b) (k : Fr b c) : Fr a c := ⟨fun i hi => (k.1 i hi).trans (h.1 i hi), fun i hi => (k.2.1 i hi).trans (h.2.1 i hi), k.2.2.trans h.2.2⟩
theorem FrM.refl (σ : St) : FrM σ σ := ⟨fun _ _ => rfl, fun _ _ => rfl, rfl⟩
theorem FrM.trans {a b c : St} (h : FrM a b) (k : FrM b c) : FrM a c := ⟨fun i hi => (k.1 i hi).trans (h.1 i hi), fun i hi => (k.2.1 i hi).trans (h.2.1 i hi), k.2.2.trans h.2.2⟩
theorem Fr.ss {σ σ' : St} {k : Nat} {v : Int32} (h : Fr σ σ') (h4 : 4 ≤ k) (h18 : k ≤ 18) : Fr σ (ss σ' k v) := ⟨fun i hi => (ss_ne (by omega)).trans (h.1 i hi), h.2.1, h.2.2⟩
theorem Fr.sr {σ σ' : St} {a i : Nat} {v : Int32} (h : Fr σ σ') (h4 : 11 ≤ a) (h18 : a ≤ 25) : Fr σ (sr σ' a i v) := ⟨h.1, fun r hr => (sr_ne (by omega)).trans (h.2.1 r hr), h.2.2⟩
theorem FrM.ss {σ σ' : St} {k : Nat} {v : Int32} (h : FrM σ σ') (h4 : 15 ≤ k) (h18 : k ≤ 18) : FrM σ (ss σ' k v) := ⟨fun i hi => (ss_ne (by omega)).trans (h.1 i hi), h.2.1, h.2.2⟩
theorem FrM.sr {σ σ' : St} {a i : Nat} {v : Int32} (h : FrM σ σ') (h4 : 19 ≤ a) (h18 : a ≤ 21) : FrM σ (sr σ' a i v) := ⟨h.1, fun r hr => (sr_ne (by omega)).trans (h.2.1 r hr), h.2.2⟩
theorem FrM.sw {σ σ' : St} {a : Nat} {f : Nat → Int32} (h : FrM σ σ') (h4 : 19 ≤ a) (h18 : a ≤ 21) : FrM σ (sw σ' a f) := ⟨h.1, fun r hr => (sw_ne (by omega)).trans (h.2.1 r hr), h.2.2⟩
/-- the desk's tests -/
theorem d_missing {F : Nat} {σ : St} {N : Nat → Int32} (h : NN N) (j : JJ σ N) : f_X2_missingToFull F σ = some (if tp N (nl N - 1) % wd N = 0 then nI 0 else nI (wd N - tp N (nl N - 1) % wd N)) := by
  obtain ⟨b1, b2, b3, b4, b5, b6, b7, b8⟩ := NNb h
  obtain ⟨e4, e5, e6, e7, e8⟩ := JJf h j
  have ht := (h.2.1.1 (nl N - 1) (by omega)).2
  have hm := Nat.mod_lt (tp N (nl N - 1)) (show 0 < wd N by omega)
  unfold f_X2_missingToFull f_X2_missingToFull_21
  by_cases c : tp N (nl N - 1) % wd N = 0
  · simp (disch := omega) only [↓bnd_i, ↓cal_s, ↓cal_n, ↓cal2_s, ↓cal2_n, cal_s, cal2_s, ↓reduceIte, fa_lit, m1_lit, m2_lit, m1_lt, m2_lt, m1_eq, m2_eq, m1_le, m2_le, le_m1, le_m2, lt_m1, lt_m2, m12, m21, m1_m1, n_lt, n_le, n_eq, lt_t, lt_f, le_t, le_f, eq_t, eq_f, n_cl, inb_ok, n_add, pk_mul, pk_sub, n_rem, n_div, n_dec, n_mx, n_mn, eq_m1, eq_m2, ss_same, ss_ne, ss_r, ss_l, sr_f, sr_l, sr_same, sr_ne, sw_f, sw_l, sw_at, sw_ne, pk_us, pk_un, bI_t, bI_f, not_true_eq_false, not_false_eq_true, eq_self, and_true, true_and, and_false, false_and, or_true, true_or, or_false, false_or, decide_true, decide_false, Bool.false_eq_true, Bool.true_eq_false, ↓cal_w (d_now h.1 j.1), d_now h.1 j.1, e5, c]
  · simp (disch := omega) only [↓bnd_i, ↓cal_s, ↓cal_n, ↓cal2_s, ↓cal2_n, cal_s, cal2_s, ↓reduceIte, fa_lit, m1_lit, m2_lit, m1_lt, m2_lt, m1_eq, m2_eq, m1_le, m2_le, le_m1, le_m2, lt_m1, lt_m2, m12, m21, m1_m1, n_lt, n_le, n_eq, lt_t, lt_f, le_t, le_f, eq_t, eq_f, n_cl, inb_ok, n_add, pk_mul, pk_sub, n_rem, n_div, n_dec, n_mx, n_mn, eq_m1, eq_m2, ss_same, ss_ne, ss_r, ss_l, sr_f, sr_l, sr_same, sr_ne, sw_f, sw_l, sw_at, sw_ne, pk_us, pk_un, bI_t, bI_f, not_true_eq_false, not_false_eq_true, eq_self, and_true, true_and, and_false, false_and, or_true, true_or, or_false, false_or, decide_true, decide_false, Bool.false_eq_true, Bool.true_eq_false, ↓cal_w (d_now h.1 j.1), d_now h.1 j.1, e5]
theorem d_pieceHolding {F : Nat} {σ : St} {N : Nat → Int32} (h : NN N) (j : JJ σ N) {p : Nat} (hp : 1 ≤ p) (hp2 : p < 2 ^ 31) : f_X2_pieceHolding F σ (nI p) = some (nI ((p - 1) / wd N)) := by
  obtain ⟨b1, b2, b3, b4, b5, b6, b7, b8⟩ := NNb h
  obtain ⟨e4, e5, e6, e7, e8⟩ := JJf h j
  unfold f_X2_pieceHolding
  simp (disch := omega) only [↓bnd_i, ↓cal_s, ↓cal_n, ↓cal2_s, ↓cal2_n, cal_s, cal2_s, ↓reduceIte, fa_lit, m1_lit, m2_lit, m1_lt, m2_lt, m1_eq, m2_eq, m1_le, m2_le, le_m1, le_m2, lt_m1, lt_m2, m12, m21, m1_m1, n_lt, n_le, n_eq, lt_t, lt_f, le_t, le_f, eq_t, eq_f, n_cl, inb_ok, n_add, pk_mul, pk_sub, n_rem, n_div, n_dec, n_mx, n_mn, eq_m1, eq_m2, ss_same, ss_ne, ss_r, ss_l, sr_f, sr_l, sr_same, sr_ne, sw_f, sw_l, sw_at, sw_ne, pk_us, pk_un, bI_t, bI_f, not_true_eq_false, not_false_eq_true, eq_self, and_true, true_and, and_false, false_and, or_true, true_or, or_false, false_or, decide_true, decide_false, Bool.false_eq_true, Bool.true_eq_false, e5]
theorem d_pieceHolding0 {F : Nat} {σ : St} : f_X2_pieceHolding F σ (nI 0) = some m1 := by
  unfold f_X2_pieceHolding
  simp (disch := omega) only [↓bnd_i, ↓cal_s, ↓cal_n, ↓cal2_s, ↓cal2_n, cal_s, cal2_s, ↓reduceIte, fa_lit, m1_lit, m2_lit, m1_lt, m2_lt, m1_eq, m2_eq, m1_le, m2_le, le_m1, le_m2, lt_m1, lt_m2, m12, m21, m1_m1, n_lt, n_le, n_eq, lt_t, lt_f, le_t, le_f, eq_t, eq_f, n_cl, inb_ok, n_add, pk_mul, pk_sub, n_rem, n_div, n_dec, n_mx, n_mn, eq_m1, eq_m2, ss_same, ss_ne, ss_r, ss_l, sr_f, sr_l, sr_same, sr_ne, sw_f, sw_l, sw_at, sw_ne, pk_us, pk_un, bI_t, bI_f, not_true_eq_false, not_false_eq_true, eq_self, and_true, true_and, and_false, false_and, or_true, true_or, or_false, false_or, decide_true, decide_false, Bool.false_eq_true, Bool.true_eq_false]
/-- whether a line has a piece -/
def hp (N : Nat → Int32) (l k : Nat) : Bool := decide (fk N l < (k + 1) * wd N ∧ k * wd N < tp N l)
theorem d_hasPiece {F : Nat} {σ : St} {N : Nat → Int32} (h : NN N) (j : JJ σ N) {l k : Nat} (hl : l < nl N) (hk : k < 120) : f_X2_hasPiece F σ (nI l) (nI k) = some (bI (hp N l k)) := by
  obtain ⟨b1, b2, b3, b4, b5, b6, b7, b8⟩ := NNb h
  obtain ⟨e4, e5, e6, e7, e8⟩ := JJf h j
  have ht := (h.2.1.1 l hl).2
  have hf := fk_le h.2.1 hl
  have hm : (k + 1) * wd N ≤ 120 * 8 := Nat.mul_le_mul (by omega) b4
  have hm2 : k * wd N ≤ 120 * 8 := Nat.mul_le_mul (by omega) b4
  unfold f_X2_hasPiece hp
  by_cases c1 : fk N l < (k + 1) * wd N
  · by_cases c2 : k * wd N < tp N l
    · simp (disch := omega) only [↓bnd_i, ↓cal_s, ↓cal_n, ↓cal2_s, ↓cal2_n, cal_s, cal2_s, ↓reduceIte, fa_lit, m1_lit, m2_lit, m1_lt, m2_lt, m1_eq, m2_eq, m1_le, m2_le, le_m1, le_m2, lt_m1, lt_m2, m12, m21, m1_m1, n_lt, n_le, n_eq, lt_t, lt_f, le_t, le_f, eq_t, eq_f, n_cl, inb_ok, n_add, pk_mul, pk_sub, n_rem, n_div, n_dec, n_mx, n_mn, eq_m1, eq_m2, ss_same, ss_ne, ss_r, ss_l, sr_f, sr_l, sr_same, sr_ne, sw_f, sw_l, sw_at, sw_ne, pk_us, pk_un, bI_t, bI_f, not_true_eq_false, not_false_eq_true, eq_self, and_true, true_and, and_false, false_and, or_true, true_or, or_false, false_or, decide_true, decide_false, Bool.false_eq_true, Bool.true_eq_false, e5, e6, j_tip j, j_fork j]
    · simp (disch := omega) only [↓bnd_i, ↓cal_s, ↓cal_n, ↓cal2_s, ↓cal2_n, cal_s, cal2_s, ↓reduceIte, fa_lit, m1_lit, m2_lit, m1_lt, m2_lt, m1_eq, m2_eq, m1_le, m2_le, le_m1, le_m2, lt_m1, lt_m2, m12, m21, m1_m1, n_lt, n_le, n_eq, lt_t, lt_f, le_t, le_f, eq_t, eq_f, n_cl, inb_ok, n_add, pk_mul, pk_sub, n_rem, n_div, n_dec, n_mx, n_mn, eq_m1, eq_m2, ss_same, ss_ne, ss_r, ss_l, sr_f, sr_l, sr_same, sr_ne, sw_f, sw_l, sw_at, sw_ne, pk_us, pk_un, bI_t, bI_f, not_true_eq_false, not_false_eq_true, eq_self, and_true, true_and, and_false, false_and, or_true, true_or, or_false, false_or, decide_true, decide_false, Bool.false_eq_true, Bool.true_eq_false, e5, e6, j_tip j, j_fork j]
  · simp (disch := omega) only [↓bnd_i, ↓cal_s, ↓cal_n, ↓cal2_s, ↓cal2_n, cal_s, cal2_s, ↓reduceIte, fa_lit, m1_lit, m2_lit, m1_lt, m2_lt, m1_eq, m2_eq, m1_le, m2_le, le_m1, le_m2, lt_m1, lt_m2, m12, m21, m1_m1, n_lt, n_le, n_eq, lt_t, lt_f, le_t, le_f, eq_t, eq_f, n_cl, inb_ok, n_add, pk_mul, pk_sub, n_rem, n_div, n_dec, n_mx, n_mn, eq_m1, eq_m2, ss_same, ss_ne, ss_r, ss_l, sr_f, sr_l, sr_same, sr_ne, sw_f, sw_l, sw_at, sw_ne, pk_us, pk_un, bI_t, bI_f, not_true_eq_false, not_false_eq_true, eq_self, and_true, true_and, and_false, false_and, or_true, true_or, or_false, false_or, decide_true, decide_false, Bool.false_eq_true, Bool.true_eq_false, e5, e6, j_tip j, j_fork j]
theorem d_hasPieceN {F : Nat} {σ : St} {N : Nat → Int32} (h : NN N) (j : JJ σ N) {x y : Int32} (hx : isN x (nl N) = false ∨ isN y 120 = false) : f_X2_hasPiece F σ x y = some (nI 0) := by
  obtain ⟨b1, b2, b3, b4, b5, b6, b7, b8⟩ := NNb h
  obtain ⟨e4, e5, e6, e7, e8⟩ := JJf h j
  unfold f_X2_hasPiece
  rcases n_ex x with hx0 | ⟨l, hl, rfl⟩
  · rw [if_pos hx0]; rfl
  rcases n_ex y with hy0 | ⟨k, hk, rfl⟩
  · by_cases c : nl N ≤ l
    · simp (disch := omega) only [↓bnd_i, ↓cal_s, ↓cal_n, ↓cal2_s, ↓cal2_n, cal_s, cal2_s, ↓reduceIte, fa_lit, m1_lit, m2_lit, m1_lt, m2_lt, m1_eq, m2_eq, m1_le, m2_le, le_m1, le_m2, lt_m1, lt_m2, m12, m21, m1_m1, n_lt, n_le, n_eq, lt_t, lt_f, le_t, le_f, eq_t, eq_f, n_cl, inb_ok, n_add, pk_mul, pk_sub, n_rem, n_div, n_dec, n_mx, n_mn, eq_m1, eq_m2, ss_same, ss_ne, ss_r, ss_l, sr_f, sr_l, sr_same, sr_ne, sw_f, sw_l, sw_at, sw_ne, pk_us, pk_un, bI_t, bI_f, not_true_eq_false, not_false_eq_true, eq_self, and_true, true_and, and_false, false_and, or_true, true_or, or_false, false_or, decide_true, decide_false, Bool.false_eq_true, Bool.true_eq_false, e6]
    · rw [if_neg (nI_pos hl), e6, if_neg, if_pos hy0]
      · rfl
      · rw [n_le (by omega) hl]; omega
  · rw [isN_n hl, isN_n hk] at hx
    simp only [decide_eq_false_iff_not] at hx
    by_cases c : nl N ≤ l
    · simp (disch := omega) only [↓bnd_i, ↓cal_s, ↓cal_n, ↓cal2_s, ↓cal2_n, cal_s, cal2_s, ↓reduceIte, fa_lit, m1_lit, m2_lit, m1_lt, m2_lt, m1_eq, m2_eq, m1_le, m2_le, le_m1, le_m2, lt_m1, lt_m2, m12, m21, m1_m1, n_lt, n_le, n_eq, lt_t, lt_f, le_t, le_f, eq_t, eq_f, n_cl, inb_ok, n_add, pk_mul, pk_sub, n_rem, n_div, n_dec, n_mx, n_mn, eq_m1, eq_m2, ss_same, ss_ne, ss_r, ss_l, sr_f, sr_l, sr_same, sr_ne, sw_f, sw_l, sw_at, sw_ne, pk_us, pk_un, bI_t, bI_f, not_true_eq_false, not_false_eq_true, eq_self, and_true, true_and, and_false, false_and, or_true, true_or, or_false, false_or, decide_true, decide_false, Bool.false_eq_true, Bool.true_eq_false, e6]
    · simp (disch := omega) only [↓bnd_i, ↓cal_s, ↓cal_n, ↓cal2_s, ↓cal2_n, cal_s, cal2_s, ↓reduceIte, fa_lit, m1_lit, m2_lit, m1_lt, m2_lt, m1_eq, m2_eq, m1_le, m2_le, le_m1, le_m2, lt_m1, lt_m2, m12, m21, m1_m1, n_lt, n_le, n_eq, lt_t, lt_f, le_t, le_f, eq_t, eq_f, n_cl, inb_ok, n_add, pk_mul, pk_sub, n_rem, n_div, n_dec, n_mx, n_mn, eq_m1, eq_m2, ss_same, ss_ne, ss_r, ss_l, sr_f, sr_l, sr_same, sr_ne, sw_f, sw_l, sw_at, sw_ne, pk_us, pk_un, bI_t, bI_f, not_true_eq_false, not_false_eq_true, eq_self, and_true, true_and, and_false, false_and, or_true, true_or, or_false, false_or, decide_true, decide_false, Bool.false_eq_true, Bool.true_eq_false, e6]
theorem d_conditionOf {F : Nat} {σ : St} {N : Nat → Int32} (h : NN N) (j : JJ σ N) {l k : Nat} (hl : l < nl N) (hk : k < 120) : f_X2_conditionOf F σ (nI l) (nI k) = some (if hp N l k then nI (kp N l k) else m1) := by
  obtain ⟨b1, b2, b3, b4, b5, b6, b7, b8⟩ := NNb h
  unfold f_X2_conditionOf
  cases c : hp N l k
  · simp (disch := omega) only [↓bnd_i, ↓cal_s, ↓cal_n, ↓cal2_s, ↓cal2_n, cal_s, cal2_s, ↓reduceIte, fa_lit, m1_lit, m2_lit, m1_lt, m2_lt, m1_eq, m2_eq, m1_le, m2_le, le_m1, le_m2, lt_m1, lt_m2, m12, m21, m1_m1, n_lt, n_le, n_eq, lt_t, lt_f, le_t, le_f, eq_t, eq_f, n_cl, inb_ok, n_add, pk_mul, pk_sub, n_rem, n_div, n_dec, n_mx, n_mn, eq_m1, eq_m2, ss_same, ss_ne, ss_r, ss_l, sr_f, sr_l, sr_same, sr_ne, sw_f, sw_l, sw_at, sw_ne, pk_us, pk_un, bI_t, bI_f, not_true_eq_false, not_false_eq_true, eq_self, and_true, true_and, and_false, false_and, or_true, true_or, or_false, false_or, decide_true, decide_false, Bool.false_eq_true, Bool.true_eq_false, ↓cal_w (d_hasPiece h j hl hk), d_hasPiece h j hl hk, c, bI_f]
  · simp (disch := omega) only [↓bnd_i, ↓cal_s, ↓cal_n, ↓cal2_s, ↓cal2_n, cal_s, cal2_s, ↓reduceIte, fa_lit, m1_lit, m2_lit, m1_lt, m2_lt, m1_eq, m2_eq, m1_le, m2_le, le_m1, le_m2, lt_m1, lt_m2, m12, m21, m1_m1, n_lt, n_le, n_eq, lt_t, lt_f, le_t, le_f, eq_t, eq_f, n_cl, inb_ok, n_add, pk_mul, pk_sub, n_rem, n_div, n_dec, n_mx, n_mn, eq_m1, eq_m2, ss_same, ss_ne, ss_r, ss_l, sr_f, sr_l, sr_same, sr_ne, sw_f, sw_l, sw_at, sw_ne, pk_us, pk_un, bI_t, bI_f, not_true_eq_false, not_false_eq_true, eq_self, and_true, true_and, and_false, false_and, or_true, true_or, or_false, false_or, decide_true, decide_false, Bool.false_eq_true, Bool.true_eq_false, ↓cal_w (d_hasPiece h j hl hk), d_hasPiece h j hl hk, c, bI_t, j_con j hl hk]
theorem d_conditionOfN {F : Nat} {σ : St} {N : Nat → Int32} (h : NN N) (j : JJ σ N) {x y : Int32} (hx : isN x (nl N) = false ∨ isN y 120 = false) : f_X2_conditionOf F σ x y = some m1 := by
  unfold f_X2_conditionOf
  simp (disch := omega) only [↓bnd_i, ↓cal_s, ↓cal_n, ↓cal2_s, ↓cal2_n, cal_s, cal2_s, ↓reduceIte, fa_lit, m1_lit, m2_lit, m1_lt, m2_lt, m1_eq, m2_eq, m1_le, m2_le, le_m1, le_m2, lt_m1, lt_m2, m12, m21, m1_m1, n_lt, n_le, n_eq, lt_t, lt_f, le_t, le_f, eq_t, eq_f, n_cl, inb_ok, n_add, pk_mul, pk_sub, n_rem, n_div, n_dec, n_mx, n_mn, eq_m1, eq_m2, ss_same, ss_ne, ss_r, ss_l, sr_f, sr_l, sr_same, sr_ne, sw_f, sw_l, sw_at, sw_ne, pk_us, pk_un, bI_t, bI_f, not_true_eq_false, not_false_eq_true, eq_self, and_true, true_and, and_false, false_and, or_true, true_or, or_false, false_or, decide_true, decide_false, Bool.false_eq_true, Bool.true_eq_false, ↓cal_w (d_hasPieceN h j hx), d_hasPieceN h j hx]
theorem nar4 : ∀ j, j < 4 → vp_nar .byte (Int8.toInt32 (Int32.toInt8 (nI j))) = nI j := by decide +kernel
theorem d_setCondition {F : Nat} {σ : St} {N : Nat → Int32} (h : NN N) (j : JJ σ N) {l k v : Nat} (hl : l < nl N) (hk : k < 120) (hv : v < 4) : f_X2_setCondition F σ (nI l) (nI k) (nI v) = some (if hp N l k then sr σ 18 (l * 120 + k) (nI v) else σ) := by
  obtain ⟨b1, b2, b3, b4, b5, b6, b7, b8⟩ := NNb h
  unfold f_X2_setCondition
  cases c : hp N l k
  · simp (disch := omega) only [↓bnd_i, ↓cal_s, ↓cal_n, ↓cal2_s, ↓cal2_n, cal_s, cal2_s, ↓reduceIte, fa_lit, m1_lit, m2_lit, m1_lt, m2_lt, m1_eq, m2_eq, m1_le, m2_le, le_m1, le_m2, lt_m1, lt_m2, m12, m21, m1_m1, n_lt, n_le, n_eq, lt_t, lt_f, le_t, le_f, eq_t, eq_f, n_cl, inb_ok, n_add, pk_mul, pk_sub, n_rem, n_div, n_dec, n_mx, n_mn, eq_m1, eq_m2, ss_same, ss_ne, ss_r, ss_l, sr_f, sr_l, sr_same, sr_ne, sw_f, sw_l, sw_at, sw_ne, pk_us, pk_un, bI_t, bI_f, not_true_eq_false, not_false_eq_true, eq_self, and_true, true_and, and_false, false_and, or_true, true_or, or_false, false_or, decide_true, decide_false, Bool.false_eq_true, Bool.true_eq_false, ↓cal_w (d_hasPiece h j hl hk), d_hasPiece h j hl hk, c, bI_f]
  · simp (disch := omega) only [↓bnd_i, ↓cal_s, ↓cal_n, ↓cal2_s, ↓cal2_n, cal_s, cal2_s, ↓reduceIte, fa_lit, m1_lit, m2_lit, m1_lt, m2_lt, m1_eq, m2_eq, m1_le, m2_le, le_m1, le_m2, lt_m1, lt_m2, m12, m21, m1_m1, n_lt, n_le, n_eq, lt_t, lt_f, le_t, le_f, eq_t, eq_f, n_cl, inb_ok, n_add, pk_mul, pk_sub, n_rem, n_div, n_dec, n_mx, n_mn, eq_m1, eq_m2, ss_same, ss_ne, ss_r, ss_l, sr_f, sr_l, sr_same, sr_ne, sw_f, sw_l, sw_at, sw_ne, pk_us, pk_un, bI_t, bI_f, not_true_eq_false, not_false_eq_true, eq_self, and_true, true_and, and_false, false_and, or_true, true_or, or_false, false_or, decide_true, decide_false, Bool.false_eq_true, Bool.true_eq_false, ↓cal_w (d_hasPiece h j hl hk), d_hasPiece h j hl hk, c, bI_t, nar4 v hv]
theorem bs_cong {f g : Nat → Bool} : ∀ {n : Nat}, (∀ c, c < n → f c = g c) → bs f n = bs g n
  | 0, _ => rfl
  | n + 1, h => by simp only [bs]; rw [bs_cong (fun c hc => h c (by omega)), h n (by omega)]
