/-! PURE: lines, on both sides -/
theorem N2.tp {N : Nat → Int32} (h : N2 N) {l : Nat} (hl : l < nl N) : N (20 + 4 * l) = nI (tp N l) ∧ tp N l ≤ 240 := h.1 l hl
theorem fk_le {N : Nat → Int32} (h : N2 N) {l : Nat} (hl : l < nl N) : fk N l ≤ tp N l := by
  by_cases h0 : l = 0
  · simp [fk, h0]
  · exact (h.2.1 l (by omega) hl).2.2.2.1
theorem owF_lt {N : Nat → Int32} (h2 : N2 N) (p : Nat) : ∀ f l, l < nl N → owF N f l p ≤ l := by
  intro f
  induction f with
  | zero => intro l _; exact Nat.le_refl l
  | succ f ih =>
    intro l hl
    simp only [owF]
    by_cases h0 : l = 0
    · simp [h0]
    · rw [if_neg h0]
      by_cases h : fk N l < p
      · simp [h]
      · simp only [h, if_false]
        have hp := (h2.2.1 l (by omega) hl).2.1
        have := ih (pr N l) (by omega)
        omega
theorem ow_lt {N : Nat → Int32} (h2 : N2 N) {l p : Nat} (hl : l < nl N) : ow N l p ≤ l := owF_lt h2 p l l hl
/-- the owner's record lies behind its fork, and ahead of its tip -/
theorem owF_in {N : Nat → Int32} (h2 : N2 N) {p : Nat} (hp : 1 ≤ p) : ∀ f l, l ≤ f → l < nl N → p ≤ tp N l → fk N (owF N f l p) < p ∧ p ≤ tp N (owF N f l p) := by
  intro f
  induction f with
  | zero =>
    intro l hf hl ht
    have h0 : l = 0 := by omega
    subst h0
    exact ⟨by simp [owF, fk]; omega, ht⟩
  | succ f ih =>
    intro l hf hl ht
    simp only [owF]
    by_cases h0 : l = 0
    · subst h0
      exact ⟨by simp [fk]; omega, ht⟩
    · rw [if_neg h0]
      by_cases h : fk N l < p
      · simp only [h, if_true]
        exact ⟨trivial, ht⟩
      · simp only [h, if_false]
        have hq := h2.2.1 l (by omega) hl
        exact ih (pr N l) (by omega) (by omega) (by omega)
theorem ow_in {N : Nat → Int32} (h2 : N2 N) {l p : Nat} (hl : l < nl N) (hp : 1 ≤ p) (ht : p ≤ tp N l) : fk N (ow N l p) < p ∧ p ≤ tp N (ow N l p) := owF_in h2 hp l l (Nat.le_refl l) hl ht
theorem t_recordAt {F : Nat} {τ : St} (h1 : N1 (nw τ)) (h2 : N2 (nw τ)) (hF : 8 < F) {l p : Nat} (hl : l < nl (nw τ)) (hp : p ≤ 240) : f_X8_recordAt F τ (nI l) (nI p) = some (nI (1380 + 3 * (241 * ow (nw τ) l p + p))) := by
  have h8 := h1.2.2.1.2.2
  unfold f_X8_recordAt f_X8_ownerOf
  rw [t_ownerOf h1 h2 F l p (by omega) hl (by omega), cal_s]
  simp only [fa_lit, pk_mul, n_add]
/-- a record's sort, what it is of, its number -/
def rc (N : Nat → Int32) (l p k : Nat) : Int32 := N (1380 + 3 * (241 * ow N l p + p) + k)
/-- the page that a record changes; -1: none -/
def chg (N : Nat → Int32) (l p : Nat) : Int32 := if 2 ≤ rc N l p 0 then -1 else rc N l p 1
theorem t_changedBy {F : Nat} {τ : St} (h1 : N1 (nw τ)) (h2 : N2 (nw τ)) (hF : 8 < F) {l p : Nat} (hl : l < nl (nw τ)) (hp : p ≤ 240) : f_X8_changedBy F τ (nI l) (nI p) = some (chg (nw τ) l p) := by
  have h8 := h1.2.2.1.2.2
  have ho := ow_lt h2 (p := p) hl
  unfold f_X8_changedBy
  rw [t_recordAt h1 h2 hF hl hp, cal_s]
  have e0 : (1 : Int32) = nI 1 := rfl
  rw [e0]
  simp (disch := omega) only [n_add, n_inb, n_cl]
  rw [if_pos (by simp; omega)]
  unfold chg rc
  by_cases h : 2 ≤ nw τ (1380 + 3 * (241 * ow (nw τ) l p + p))
  · rw [if_pos h, if_pos (show 2 ≤ nw τ (1380 + 3 * (241 * ow (nw τ) l p + p) + 0) from h)]; rfl
  · rw [if_neg h, if_neg (show ¬ 2 ≤ nw τ (1380 + 3 * (241 * ow (nw τ) l p + p) + 0) from h), if_pos (by simp; omega)]
theorem t_pieceOf {F : Nat} {τ : St} (h1 : N1 (nw τ)) {p : Nat} (hp : 1 ≤ p) (hp2 : p < 2 ^ 31) : f_X8_pieceOf F τ (nI p) = some (nI ((p - 1) / wd (nw τ))) := by
  obtain ⟨-, ⟨h2, h3, h4⟩, -⟩ := h1
  unfold f_X8_pieceOf
  rw [show τ.2.1 19 1 = nI (wd (nw τ)) from h2]
  simp (disch := omega) only [fa_lit, n_eq, pk_sub, n_div]
  rw [if_pos (by omega)]
theorem t_firstPiece {F : Nat} {τ : St} (h1 : N1 (nw τ)) (h2 : N2 (nw τ)) {l : Nat} (hl : l < nl (nw τ)) : f_X8_firstPiece F τ (nI l) = some (nI (fk (nw τ) l / wd (nw τ))) := by
  have h8 := h1.2.2.1.2.2
  have hf := fk_le h2 hl
  have ht := (h2.1 l hl).2
  obtain ⟨-, ⟨h3, h4, h5⟩, -⟩ := h1
  unfold f_X8_firstPiece
  rw [t_forkOf h2 hl h8, cal_s, show τ.2.1 19 1 = nI (wd (nw τ)) from h3]
  simp (disch := omega) only [fa_lit, n_eq, n_div]
  rw [if_pos (by omega)]
/-- what the lines' own records sum up to, ahead of a line -/
def sm (N : Nat → Int32) : Nat → Nat
  | 0 => 0
  | l + 1 => sm N l + (tp N l - fk N l)
/-- the desk's journal says what 'now' says: sizes, counts, lines -/
def JL (σ : St) (N : Nat → Int32) : Prop := (σ.1 4 = N 0 ∧ σ.1 5 = N 1 ∧ σ.1 6 = N 2 ∧ σ.1 7 = N 4 ∧ σ.1 8 = N 5) ∧ (∀ l, l < nl N → σ.2.1 13 l = nI (tp N l) ∧ σ.2.1 12 l = nI (fk N l) ∧ σ.2.1 14 l = nI (sm N l) ∧ (0 < l → σ.2.1 11 l = nI (pr N l))) ∧ σ.2.1 11 0 = -2 ∧ md N = sm N (nl N)
theorem d_hasLine {F : Nat} {σ : St} {N : Nat → Int32} (h1 : N1 N) (hj : JL σ N) (x : Int32) : f_X2_hasLine F σ x = some (bI (isN x (nl N))) := by
  obtain ⟨-, -, ⟨h2, h3, h4⟩, -⟩ := h1
  unfold f_X2_hasLine
  rw [hj.1.2.2.1, h2]
  rcases n_ex x with h | ⟨k, hk, rfl⟩
  · rw [if_pos h]; simp [isN, h, bI]
  · rw [if_neg (nI_pos hk), isN_n hk]
    simp only [n_le (show nl N < 2 ^ 31 by omega) hk]
    by_cases h5 : k < nl N
    · rw [if_neg (by omega)]; simp [h5, bI]
    · rw [if_pos (by omega)]; simp [h5, bI]
theorem d_now {F : Nat} {σ : St} {N : Nat → Int32} (h1 : N1 N) (hj : JL σ N) : f_X2_now F σ = some (nI (tp N (nl N - 1))) := by
  obtain ⟨-, -, ⟨h2, h3, h4⟩, -⟩ := h1
  unfold f_X2_now
  rw [hj.1.2.2.1, h2]
  simp (disch := omega) only [fa_lit, n_le, pk_sub, n_inb, n_cl]
  rw [if_neg (by omega), if_pos (by simp; omega)]
  exact congrArg some (hj.2.1 (nl N - 1) (by omega)).1
theorem d_rowOf_34 {F : Nat} {σ : St} {N : Nat → Int32} (h1 : N1 N) (h2 : N2 N) (hj : JL σ N) {p : Nat} (hp1 : 1 ≤ p) (hp : p ≤ 240) : ∀ (n l k : Nat), l < n → l + k ≤ 8 → l < nl N → p ≤ tp N l → f_X2_rowOf_34 F n σ (nI p) (nI l) (nI k) = some (nI (sm N (ow N l p) + p - fk N (ow N l p) - 1)) := by
  have h8 := h1.2.2.1.2.2
  have base : ∀ l, l < nl N → fk N l < p → f_X2_rowOf_68 F σ (nI p) (nI l) = some (nI (sm N l + p - fk N l - 1)) := by
    intro l hl hf
    unfold f_X2_rowOf_68
    have hq := hj.2.1 l hl
    simp (disch := omega) only [fa_lit, n_le, n_inb, n_cl]
    rw [if_pos (by omega), if_pos (by simp; omega), if_pos (by simp; omega), hq.2.2.1, hq.2.1]
    rw [n_add, pk_sub (by omega), pk_sub (by omega)]
  intro n
  induction n with
  | zero => intro l k h; omega
  | succ n ih =>
    intro l k hn hk hl ht
    rw [f_X2_rowOf_34]
    have hq := hj.2.1 l hl
    have htp := (h2.1 l hl).2
    have hfk := fk_le h2 hl
    simp (disch := omega) only [fa_lit, n_le, n_inb, n_cl, hq.2.1, n_lt, n_add]
    by_cases h0 : l = 0
    · subst h0
      rw [show ow N 0 p = 0 from rfl]
      by_cases hk8 : 8 ≤ k
      · rw [if_pos hk8]; exact base 0 hl (by simp [fk]; omega)
      · rw [if_neg hk8, if_pos (Nat.le_refl 0)]; exact base 0 hl (by simp [fk]; omega)
    · rw [if_neg (by omega), if_neg (by omega), if_pos (by simp; omega)]
      obtain ⟨q, rfl⟩ : ∃ q, l = q + 1 := ⟨l - 1, by omega⟩
      by_cases h3 : fk N (q + 1) < p
      · rw [if_pos h3]
        rw [show ow N (q + 1) p = q + 1 by simp [ow, owF, h3]]
        exact base (q + 1) hl h3
      · rw [if_neg h3, if_pos (by simp; omega), bnd_i, bnd_i, hq.2.2.2 (by omega)]
        have hpr := h2.2.1 (q + 1) (by omega) hl
        rw [ih (pr N (q + 1)) (k + 1) (by omega) (by omega) (by omega) (by omega)]
        have e1 : ow N (q + 1) p = ow N (pr N (q + 1)) p := by
          simp only [ow, owF, h3, if_false, Nat.succ_ne_zero]
          exact owF_up h2 p q (pr N (q + 1)) (by omega) (by omega)
        rw [e1]
theorem d_rowOf {F : Nat} {σ : St} {N : Nat → Int32} (h1 : N1 N) (h2 : N2 N) (hj : JL σ N) (hF : 8 < F) {l p : Nat} (hl : l < nl N) (hp1 : 1 ≤ p) (ht : p ≤ tp N l) : f_X2_rowOf F σ (nI l) (nI p) = some (nI (sm N (ow N l p) + p - fk N (ow N l p) - 1)) := by
  have h8 := h1.2.2.1.2.2
  have htp := (h2.1 l hl).2
  have hq := hj.2.1 l hl
  unfold f_X2_rowOf
  rw [hj.1.2.2.1, h1.2.2.1.1]
  simp (disch := omega) only [fa_lit, n_lt, n_le, n_inb, n_cl, hq.1]
  rw [if_neg (by omega), if_neg (by omega), if_neg (by omega), if_pos (by simp; omega), if_pos ht]
  exact d_rowOf_34 h1 h2 hj hp1 (by omega) F l 0 (by omega) (by omega) hl ht
