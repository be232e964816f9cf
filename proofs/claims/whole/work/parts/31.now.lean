/-! PURE: the model's row 'now', and what it says -/
abbrev nw (τ : St) : Nat → Int32 := τ.2.1 19
def pg (N : Nat → Int32) : Nat := (N 0).toNatClampNeg
def wd (N : Nat → Int32) : Nat := (N 1).toNatClampNeg
def nl (N : Nat → Int32) : Nat := (N 2).toNatClampNeg
def md (N : Nat → Int32) : Nat := (N 4).toNatClampNeg
def nc (N : Nat → Int32) : Nat := (N 5).toNatClampNeg
def tp (N : Nat → Int32) (l : Nat) : Nat := (N (20 + 4 * l)).toNatClampNeg
def pr (N : Nat → Int32) (l : Nat) : Nat := (N (20 + 4 * l + 1)).toNatClampNeg
def fk (N : Nat → Int32) (l : Nat) : Nat := if l = 0 then 0 else (N (20 + 4 * l + 2)).toNatClampNeg
/-- the heads: sizes and counts -/
def N1 (N : Nat → Int32) : Prop := (N 0 = nI (pg N) ∧ 1 ≤ pg N ∧ pg N ≤ 8) ∧ (N 1 = nI (wd N) ∧ 2 ≤ wd N ∧ wd N ≤ 8) ∧ (N 2 = nI (nl N) ∧ 1 ≤ nl N ∧ nl N ≤ 8) ∧ N 3 = nI (nl N - 1) ∧ (N 4 = nI (md N) ∧ md N ≤ 600) ∧ (N 5 = nI (nc N) ∧ nc N ≤ 10) ∧ ∃ t, t ≤ 300 ∧ N 6 = nI t
/-- the lines -/
def N2 (N : Nat → Int32) : Prop := (∀ l, l < nl N → N (20 + 4 * l) = nI (tp N l) ∧ tp N l ≤ 240) ∧ (∀ l, 0 < l → l < nl N → N (20 + 4 * l + 1) = nI (pr N l) ∧ pr N l < l ∧ N (20 + 4 * l + 2) = nI (fk N l) ∧ fk N l ≤ tp N l ∧ fk N l ≤ tp N (pr N l)) ∧ N 21 = -2 ∧ N 22 = -2
theorem f_in {F : Nat} {τ : St} {x : Int32} {a b : Nat} (ha : a < 2 ^ 31) (hb : b < 2 ^ 31) : f_X8_in F τ x (nI a) (nI b) = some (bI (decide (nI a ≤ x ∧ x ≤ nI b))) := by
  unfold f_X8_in
  by_cases h1 : x < nI a
  · rw [if_pos h1]
    have : ¬ nI a ≤ x := Int32.not_le.mpr h1
    simp [this, bI]
  · rw [if_neg h1]
    have h1' := Int32.not_lt.mp h1
    by_cases h2 : nI b < x
    · rw [if_pos h2]
      have : ¬ x ≤ nI b := Int32.not_le.mpr h2
      simp [this, bI]
    · rw [if_neg h2]
      simp [h1', Int32.not_lt.mp h2, bI]
/-- an int among the first numbers -/
def isN (x : Int32) (n : Nat) : Bool := decide (¬ x < 0 ∧ x.toNatClampNeg < n)
theorem isN_n {k n : Nat} (hk : k < 2 ^ 31) : isN (nI k) n = decide (k < n) := by
  unfold isN
  rw [nI_clamp hk]
  simp [nI_pos hk]
theorem isN_e {x : Int32} {n : Nat} (h : isN x n = true) (hn : n ≤ 2 ^ 31) : ∃ k, k < n ∧ x = nI k := by
  have h1 := of_decide_eq_true h
  rcases n_ex x with h2 | ⟨k, hk, rfl⟩
  · exact absurd h2 h1.1
  · rw [nI_clamp hk] at h1
    exact ⟨k, h1.2, rfl⟩
theorem in_isN {F : Nat} {τ : St} {x : Int32} {n : Nat} (h1 : 1 ≤ n) (hn : n < 2 ^ 31) : f_X8_in F τ x (nI 0) (nI n - nI 1) = some (bI (isN x n)) := by
  rw [pk_sub h1, f_in (by decide) (by omega)]
  congr 2
  rcases n_ex x with h2 | ⟨k, hk, rfl⟩
  · have h3 : ¬ nI 0 ≤ x := neg_nle h2 (by decide)
    simp [isN, h2, h3]
  · rw [isN_n hk]
    exact decide_eq_decide.mpr (by rw [n_le (by decide) hk, n_le hk (by omega)]; omega)
theorem t_isLine {F : Nat} {τ : St} (h : N1 (nw τ)) (x : Int32) : f_X8_isLine F τ x = some (bI (isN x (nl (nw τ)))) := by
  unfold f_X8_isLine
  obtain ⟨-, -, ⟨h2, h3, h4⟩, -⟩ := h
  rw [show τ.2.1 19 2 = nI (nl (nw τ)) from h2, fa_lit, fa_lit, in_isN h3 (by omega), cal_s]
  exact if_pos (by rw [bI_01]; trivial)
theorem t_isPage {F : Nat} {τ : St} (h : N1 (nw τ)) (x : Int32) : f_X8_isPage F τ x = some (bI (isN x (pg (nw τ)))) := by
  unfold f_X8_isPage
  obtain ⟨⟨h2, h3, h4⟩, -⟩ := h
  rw [show τ.2.1 19 0 = nI (pg (nw τ)) from h2, fa_lit, fa_lit, in_isN h3 (by omega), cal_s]
  exact if_pos (by rw [bI_01]; trivial)
theorem t_isCopy {F : Nat} {τ : St} (h : N1 (nw τ)) (x : Int32) : f_X8_isCopy F τ x = some (bI (isN x (nc (nw τ)))) := by
  unfold f_X8_isCopy
  obtain ⟨-, -, -, -, -, ⟨h2, h4⟩, -⟩ := h
  rw [show τ.2.1 19 5 = nI (nc (nw τ)) from h2, fa_lit, fa_lit]
  rcases Nat.eq_zero_or_pos (nc (nw τ)) with h0 | h0
  · rw [h0]
    have e1 : f_X8_in F τ x (nI 0) (nI 0 - nI 1) = some (bI (isN x 0)) := by
      unfold f_X8_in
      rcases n_ex x with h2 | ⟨k, hk, rfl⟩
      · rw [if_pos (show x < nI 0 from h2)]; simp [isN, bI]
      · rw [if_neg (show ¬ nI k < nI 0 from nI_pos hk), if_pos]
        · simp [isN, bI]
        · rw [Int32.lt_iff_toInt_lt, nI_toInt hk, pk_sub_toInt (by decide) (by decide)]; omega
    rw [e1, cal_s]
    exact if_pos (by rw [bI_01]; trivial)
  · rw [in_isN h0 (by omega), cal_s]
    exact if_pos (by rw [bI_01]; trivial)
theorem t_placeOf {F : Nat} {τ : St} {l : Nat} (hl : l < 8) : f_X8_placeOf F τ (nI l) = some (nw τ (20 + 4 * l)) := by
  unfold f_X8_placeOf
  simp (disch := omega) only [fa_lit, pk_mul, n_add, n_inb, n_cl]
  rw [if_pos (by simp; omega)]
theorem t_parentOf {F : Nat} {τ : St} {l : Nat} (hl : l < 8) : f_X8_parentOf F τ (nI l) = some (nw τ (20 + 4 * l + 1)) := by
  unfold f_X8_parentOf
  simp (disch := omega) only [fa_lit, pk_mul, n_add, n_inb, n_cl]
  rw [if_pos (by simp; omega)]
theorem t_forkOf {F : Nat} {τ : St} {l : Nat} (h2 : N2 (nw τ)) (hl : l < nl (nw τ)) (h8 : nl (nw τ) ≤ 8) : f_X8_forkOf F τ (nI l) = some (nI (fk (nw τ) l)) := by
  unfold f_X8_forkOf
  simp (disch := omega) only [fa_lit, pk_mul, n_add, n_inb, n_cl, n_eq]
  by_cases h0 : l = 0
  · rw [if_pos h0]; simp [fk, h0]
  · rw [if_neg h0, if_pos (by simp; omega)]
    exact congrArg some (h2.2.1 l (by omega) hl).2.2.1
/-- the line by which the record of a line at a place came -/
def owF (N : Nat → Int32) : Nat → Nat → Nat → Nat
  | 0, l, _ => l
  | f + 1, l, p => if l = 0 then 0 else if fk N l < p then l else owF N f (pr N l) p
def ow (N : Nat → Int32) (l p : Nat) : Nat := owF N l l p
theorem owF_up {N : Nat → Int32} (h2 : N2 N) (p : Nat) : ∀ f l, l ≤ f → l < nl N → owF N f l p = owF N l l p := by
  intro f
  induction f using Nat.strongRecOn with
  | _ f ih =>
    intro l hf hl
    cases l with
    | zero =>
      cases f with
      | zero => rfl
      | succ f => simp [owF]
    | succ l =>
      cases f with
      | zero => omega
      | succ f =>
        have hp := (h2.2.1 (l + 1) (by omega) hl).2.1
        simp only [owF]
        by_cases h : fk N (l + 1) < p
        · simp [h]
        · simp only [h, if_false, Nat.succ_ne_zero]
          rw [ih f (by omega) (pr N (l + 1)) (by omega) (by omega)]
          by_cases hlf : l < f + 1
          · rw [ih l (by omega) (pr N (l + 1)) (by omega) (by omega)]
          · omega
theorem t_ownerOf {F : Nat} {τ : St} (h1 : N1 (nw τ)) (h2 : N2 (nw τ)) : ∀ (n l p : Nat), l < n → l < nl (nw τ) → p < 2 ^ 31 → f_X8_ownerOf_2 F n τ (nI p) (nI l) = some (nI (ow (nw τ) l p)) := by
  have h8 := h1.2.2.1.2.2
  intro n
  induction n with
  | zero => intro l p h; omega
  | succ n ih =>
    intro l p hn hl hp
    rw [f_X8_ownerOf_2]
    simp (disch := omega) only [fa_lit, n_le]
    by_cases h0 : l = 0
    · rw [if_pos (by omega)]
      subst h0
      rfl
    · rw [if_neg (by omega), t_forkOf h2 hl h8, cal_s]
      have hfk := h2.2.1 l (by omega) hl
      have htp := (h2.1 l hl).2
      simp (disch := omega) only [n_lt]
      by_cases h3 : fk (nw τ) l < p
      · rw [if_pos h3]
        obtain ⟨k, rfl⟩ : ∃ k, l = k + 1 := ⟨l - 1, by omega⟩
        simp [ow, owF, h3]
      · rw [if_neg h3, t_parentOf (by omega), cal_s]
        rw [show nw τ (20 + 4 * l + 1) = nI (pr (nw τ) l) from hfk.1]
        rw [ih (pr (nw τ) l) p (by omega) (by omega) hp]
        obtain ⟨k, rfl⟩ : ∃ k, l = k + 1 := ⟨l - 1, by omega⟩
        simp only [ow, owF, h3, if_false, Nat.succ_ne_zero]
        rw [owF_up h2 p k (pr (nw τ) (k + 1)) (by omega) (by omega)]
