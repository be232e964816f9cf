/-! PURE: a record comes, on the model's side -/
theorem sr_sw {τ : St} {a i : Nat} {M : Nat → Int32} {v : Int32} : sr (sw τ a M) a i v = sw τ a (upd M i v) := by
  unfold sr sw
  simp only [if_true]
  congr 2
  funext b
  by_cases h : b = a
  · simp [h]
  · simp [h]
theorem sr_as {τ : St} {a i : Nat} {v : Int32} : sr τ a i v = sw τ a (upd (τ.2.1 a) i v) := rfl
theorem sw_sw {τ : St} {a : Nat} {M M' : Nat → Int32} : sw (sw τ a M) a M' = sw τ a M' := by
  unfold sw
  congr 2
  funext b
  by_cases h : b = a <;> simp [h]
theorem sw_self {τ : St} {a : Nat} : sw τ a (τ.2.1 a) = τ := by
  unfold sw
  congr 2
  funext b
  by_cases h : b = a <;> simp [h]
theorem t_hasRoom {F : Nat} {τ : St} (h1 : N1 (nw τ)) (h2 : N2 (nw τ)) {k : Nat} (hk : k ≤ 1000) : f_X8_hasRoom F τ (nI k) = some (bI (decide (tp (nw τ) (nl (nw τ) - 1) + k ≤ 240 ∧ md (nw τ) + k ≤ 600))) := by
  have h8 := h1.2.2.1
  have ht := h2.1 (nl (nw τ) - 1) (by omega)
  obtain ⟨h4, h5⟩ := h1.2.2.2.2.1
  unfold f_X8_hasRoom
  rw [show τ.2.1 19 3 = nI (nl (nw τ) - 1) from h1.2.2.2.1, t_placeOf (by omega), cal_s, ht.1, show τ.2.1 19 4 = nI (md (nw τ)) from h4]
  simp (disch := omega) only [fa_lit, n_add, n_lt]
  by_cases c1 : 240 < tp (nw τ) (nl (nw τ) - 1) + k
  · rw [if_pos c1]
    have : ¬ tp (nw τ) (nl (nw τ) - 1) + k ≤ 240 := by omega
    simp [this, bI]; rfl
  · rw [if_neg c1]
    by_cases c2 : 600 < md (nw τ) + k
    · rw [if_pos c2]
      have : ¬ md (nw τ) + k ≤ 600 := by omega
      simp [this, bI]; rfl
    · rw [if_neg c2]
      have e1 : tp (nw τ) (nl (nw τ) - 1) + k ≤ 240 := by omega
      have e2 : md (nw τ) + k ≤ 600 := by omega
      simp [e1, e2, bI]; rfl
theorem t_pieceW {F : Nat} {τ : St} {w p : Nat} (h : τ.2.1 19 1 = nI w) (h1 : 1 ≤ w) (h8 : w ≤ 8) (hp : 1 ≤ p) (hp2 : p < 2 ^ 31) : f_X8_pieceOf F τ (nI p) = some (nI ((p - 1) / w)) := by
  unfold f_X8_pieceOf
  rw [h]
  simp (disch := omega) only [fa_lit, n_eq, pk_sub, n_div]
  rw [if_pos (by omega)]
/-- 'now' when a record has come -/
def cmN (N : Nat → Int32) (a b v : Int32) : Nat → Int32 :=
  let l := nl N - 1
  let p := tp N l + 1
  let k := 1380 + 3 * (241 * l + p)
  let M := upd (upd (upd (upd (upd N (20 + 4 * l) (nI p)) k a) (k + 1) b) (k + 2) v) 4 (nI (md N + 1))
  if p % wd N = 0 then upd M (420 + 120 * l + (p - 1) / wd N) (nI 1) else M
theorem t_comes {F : Nat} {τ : St} (h1 : N1 (nw τ)) (h2 : N2 (nw τ)) (a b v : Int32) : f_X8_comes F τ a b v = if tp (nw τ) (nl (nw τ) - 1) + 1 ≤ 240 ∧ md (nw τ) + 1 ≤ 600 then some (nI (tp (nw τ) (nl (nw τ) - 1) + 1), sw τ 19 (cmN (nw τ) a b v)) else some (-1, τ) := by
  have h8 := h1.2.2.1
  have ht := h2.1 (nl (nw τ) - 1) (by omega)
  obtain ⟨h4, h5⟩ := h1.2.2.2.2.1
  obtain ⟨h6, h7, h9⟩ := h1.2.1
  unfold f_X8_comes
  rw [show (1 : Int32) = nI 1 from rfl, t_hasRoom h1 h2 (by omega), cal_s]
  by_cases hr : tp (nw τ) (nl (nw τ) - 1) + 1 ≤ 240 ∧ md (nw τ) + 1 ≤ 600
  · rw [if_pos hr, decide_eq_true hr]
    rw [if_neg (show ¬ bI true = 0 by decide), bnd_i, show τ.2.1 19 3 = nI (nl (nw τ) - 1) from h1.2.2.2.1, t_placeOf (by omega), cal_s, ht.1]
    generalize hl : nl (nw τ) - 1 = l at *
    generalize hp : tp (nw τ) l = p at *
    have hl8 : l < 8 := by omega
    rw [bnd_i, bnd_i]
    simp only [fa_lit, n_add, pk_mul]
    rw [if_pos (inb_ok (by omega) (by omega)), bnd_i, if_pos (inb_ok (by omega) (by omega)), bnd_i, if_pos (inb_ok (by omega) (by omega)), bnd_i, if_pos (inb_ok (by omega) (by omega)), bnd_i, bnd_i]
    simp (disch := omega) only [n_cl]
    simp only [sr_as, sw_at, sw_sw]
    have e4 : upd (upd (upd (upd (τ.2.1 19) (20 + 4 * l) (nI (p + 1))) (1380 + 3 * (241 * l + (p + 1))) a) (1380 + 3 * (241 * l + (p + 1)) + 1) b) (1380 + 3 * (241 * l + (p + 1)) + 2) v 4 = nI (md (nw τ)) := by
      rw [pk_un (by omega), pk_un (by omega), pk_un (by omega), pk_un (by omega)]
      exact h4
    rw [e4]
    have e1 : upd (upd (upd (upd (upd (τ.2.1 19) (20 + 4 * l) (nI (p + 1))) (1380 + 3 * (241 * l + (p + 1))) a) (1380 + 3 * (241 * l + (p + 1)) + 1) b) (1380 + 3 * (241 * l + (p + 1)) + 2) v) 4 (nI (md (nw τ)) + nI 1) 1 = nI (wd (nw τ)) := by
      rw [pk_un (by omega), pk_un (by omega), pk_un (by omega), pk_un (by omega), pk_un (by omega)]
      exact h6
    simp only [e1]
    have hmb : (p + 1) % wd (nw τ) < 9 := by have := Nat.mod_lt (p + 1) (show 0 < wd (nw τ) by omega); omega
    simp (disch := omega) only [n_eq, pk_rem, n_add]
    rw [if_pos (show ¬ wd (nw τ) = 0 by omega)]
    unfold cmN
    simp only [hl, hp]
    by_cases hm : (p + 1) % wd (nw τ) = 0
    · rw [if_pos hm, if_pos hm]
      have hdv : (p + 1 - 1) / wd (nw τ) ≤ 240 := Nat.le_trans (Nat.div_le_self _ _) (by omega)
      have hd2 : (p + 1 - 1) / wd (nw τ) < 120 := by
        rw [Nat.div_lt_iff_lt_mul (by omega)]
        omega
      rw [t_pieceW (w := wd (nw τ)) (by rw [sw_at]; rw [n_add] at e1; exact e1) (by omega) (by omega) (by omega) (by omega), cal_s]
      simp only [n_add]
      rw [if_pos (inb_ok (by omega) (by omega)), bnd_i]
      simp (disch := omega) only [n_cl]
    · rw [if_neg hm, if_neg hm]
  · rw [if_neg hr, decide_eq_false hr, if_pos (show bI false = 0 by decide)]
