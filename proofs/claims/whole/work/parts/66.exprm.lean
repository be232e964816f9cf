/-! PURE: the model's expression -/
def wsR (f : Nat → Int32) : List Nat → Prop
  | [] => True
  | w :: r => f r.length = nI w ∧ wsR f r
def cdR (f g : Nat → Int32) (c0 : Nat) : Cd → Prop
  | [] => True
  | x :: r => f (c0 + r.length) = nI x.1 ∧ g (c0 + r.length) = nI x.2 ∧ cdR f g c0 r
theorem wsR_upd {f : Nat → Int32} {v : Int32} : ∀ {ws : List Nat} {i : Nat}, ws.length ≤ i → wsR f ws → wsR (upd f i v) ws
  | [], _, _, _ => trivial
  | w :: r, i, h, hw => by
    have h' : r.length + 1 ≤ i := h
    refine ⟨?_, wsR_upd (by omega) hw.2⟩
    rw [pk_un (by omega)]; exact hw.1
theorem cdR_upd {f g : Nat → Int32} {c0 : Nat} {v w : Int32} : ∀ {c : Cd} {i : Nat}, c0 + c.length ≤ i → cdR f g c0 c → cdR (upd f i v) (upd g i w) c0 c
  | [], _, _, _ => trivial
  | x :: r, i, h, hc => by
    have h' : c0 + (r.length + 1) ≤ i := h
    refine ⟨?_, ?_, cdR_upd (by omega) hc.2.2⟩
    · rw [pk_un (by omega)]; exact hc.1
    · rw [pk_un (by omega)]; exact hc.2.1
def hdW (ws : List Nat) : Nat := ws.headD 6
def wOK : List Nat → Prop
  | [] => True
  | w :: r => wOK r ∧ (w = 6 ∨ ((w = 8 ∨ w = 9) ∧ hdW r = 6) ∨ ((w = 10 ∨ w = 15 ∨ w = 16) ∧ (hdW r = 6 ∨ hdW r = 8 ∨ hdW r = 9)))
def c6 : List Nat → Nat
  | [] => 0
  | w :: r => c6 r + if w = 6 then 1 else 0
def nop : List Nat → Nat
  | [] => 0
  | w :: r => nop r + if w = 6 then 0 else 1
def wt (w : Nat) : Nat := if w = 6 then 0 else if w = 8 ∨ w = 9 then 1 else 2
theorem wOK_len : ∀ {ws : List Nat}, wOK ws → ws.length ≤ 3 * c6 ws + wt (hdW ws)
  | [], _ => Nat.zero_le _
  | w :: r, h => by
    have ih := wOK_len h.1
    have e1 : (w :: r).length = r.length + 1 := rfl
    have e2 : hdW (w :: r) = w := rfl
    have e3 : c6 (w :: r) = c6 r + if w = 6 then 1 else 0 := rfl
    rw [e1, e2, e3]
    rcases h.2 with q | ⟨q1, q2⟩ | ⟨q1, q2⟩
    · rw [if_pos q, q]
      have : wt (hdW r) ≤ 2 := by unfold wt; repeat' split
                                  all_goals omega
      have : wt 6 = 0 := rfl
      omega
    · rw [q2] at ih
      have : wt 6 = 0 := rfl
      have w1 : wt w = 1 := by unfold wt; rw [if_neg (by omega), if_pos q1]
      rw [if_neg (by omega)]
      omega
    · have w2 : wt w = 2 := by unfold wt; rw [if_neg (by omega), if_neg (by omega)]
      have : wt (hdW r) ≤ 1 := by
        unfold wt
        rcases q2 with z | z | z <;> rw [z] <;> decide
      rw [if_neg (by omega)]
      omega
theorem nop_le : ∀ (ws : List Nat), nop ws ≤ ws.length
  | [] => Nat.le_refl _
  | w :: r => by
    have := nop_le r
    have e : (w :: r).length = r.length + 1 := rfl
    rw [e, nop]
    split <;> omega
theorem outc_P (s : Bool) : ∀ (ws : List Nat) (c : Cd), wOK ws → wOK (outc s ws c).1 ∧ c6 (outc s ws c).1 = c6 ws ∧ (hdW (outc s ws c).1 = 6 ∨ (s = true ∧ (hdW (outc s ws c).1 = 8 ∨ hdW (outc s ws c).1 = 9))) ∧ (outc s ws c).2.length + nop (outc s ws c).1 = c.length + nop ws ∧ (outc s ws c).1.length ≤ ws.length
  | [], c, _ => ⟨trivial, rfl, Or.inl rfl, rfl, Nat.le_refl _⟩
  | w :: r, c, h => by
    rw [outc]
    by_cases q : w = 6 ∨ (s = true ∧ (w = 8 ∨ w = 9))
    · rw [if_pos q]
      exact ⟨h, rfl, q, rfl, Nat.le_refl _⟩
    · rw [if_neg q]
      obtain ⟨i1, i2, i3, i4, i5⟩ := outc_P s r ((opc w, 0) :: c) h.1
      have w6 : w ≠ 6 := fun z => q (Or.inl z)
      refine ⟨i1, ?_, i3, ?_, Nat.le_succ_of_le i5⟩
      · rw [i2, c6, if_neg w6]; rfl
      · rw [i4, nop, if_neg w6]
        show c.length + 1 + nop r = _
        omega
/-- what an expression leaves as it is -/
def FmE (c0 : Nat) (τ τ' : St) : Prop := (∀ k, k ≠ 4 → k ≠ 5 → k ≠ 6 → k ≠ 7 → k ≠ 13 → k ≠ 14 → τ'.1 k = τ.1 k) ∧ (∀ r, r < 13 ∨ 15 < r → τ'.2.1 r = τ.2.1 r) ∧ (∀ i, i < c0 → τ'.2.1 13 i = τ.2.1 13 i ∧ τ'.2.1 14 i = τ.2.1 14 i) ∧ τ'.2.2 = τ.2.2
theorem FmE.refl {c0 : Nat} (τ : St) : FmE c0 τ τ := ⟨fun _ _ _ _ _ _ _ => rfl, fun _ _ => rfl, fun _ _ => ⟨rfl, rfl⟩, rfl⟩
theorem FmE.trans {c0 : Nat} {a b c : St} (h : FmE c0 a b) (k : FmE c0 b c) : FmE c0 a c := ⟨fun i h1 h2 h3 h4 h5 h6 => (k.1 i h1 h2 h3 h4 h5 h6).trans (h.1 i h1 h2 h3 h4 h5 h6), fun i hi => (k.2.1 i hi).trans (h.2.1 i hi), fun i hi => ⟨(k.2.2.1 i hi).1.trans (h.2.2.1 i hi).1, (k.2.2.1 i hi).2.trans (h.2.2.1 i hi).2⟩, k.2.2.2.trans h.2.2.2⟩
theorem FmE.ss {c0 : Nat} {τ τ' : St} {k : Nat} {v : Int32} (h : FmE c0 τ τ') (hk : k = 4 ∨ k = 5 ∨ k = 6 ∨ k = 7 ∨ k = 13 ∨ k = 14) : FmE c0 τ (ss τ' k v) := ⟨fun i h1 h2 h3 h4 h5 h6 => (ss_ne (by omega)).trans (h.1 i h1 h2 h3 h4 h5 h6), h.2.1, h.2.2.1, h.2.2.2⟩
theorem FmE.sr15 {c0 : Nat} {τ τ' : St} {i : Nat} {v : Int32} (h : FmE c0 τ τ') : FmE c0 τ (sr τ' 15 i v) := ⟨h.1, fun r hr => (sr_ne (by omega)).trans (h.2.1 r hr), fun j hj => by rw [sr_ne (by omega), sr_ne (by omega)]; exact h.2.2.1 j hj, h.2.2.2⟩
def emS (τ : St) (n : Nat) (x y : Int32) : St := ss (sr (sr τ 13 n x) 14 n y) 13 (nI (n + 1))
theorem t_emit {F : Nat} {τ : St} {n : Nat} (h : τ.1 13 = nI n) (hn : n < 420) (x y : Int32) : f_X8_emit F τ x y = some (emS τ n x y) := by
  unfold f_X8_emit emS
  simp (disch := omega) only [↓bnd_i, ↓cal_s, ↓cal_n, ↓cal2_s, ↓cal2_n, cal_s, cal2_s, ↓reduceIte, fa_lit, m1_lit, m2_lit, m1_lt, m2_lt, m1_eq, m2_eq, m1_le, m2_le, le_m1, le_m2, lt_m1, lt_m2, m12, m21, m1_m1, n_lt, n_le, n_eq, lt_t, lt_f, le_t, le_f, eq_t, eq_f, n_cl, inb_ok, n_add, pk_mul, pk_sub, n_rem, n_div, n_dec, n_mx, n_mn, eq_m1, eq_m2, ss_same, ss_ne, ss_r, ss_l, sr_f, sr_l, sr_same, sr_ne, sw_f, sw_l, sw_at, sw_ne, pk_us, pk_un, bI_t, bI_f, not_true_eq_false, not_false_eq_true, eq_self, and_true, true_and, and_false, false_and, or_true, true_or, or_false, false_or, decide_true, decide_false, Bool.false_eq_true, Bool.true_eq_false, h]
theorem emS_f {τ : St} {n k : Nat} {x y : Int32} (h : k ≠ 13) : (emS τ n x y).1 k = τ.1 k := ss_ne h
theorem emS_r {τ : St} {n : Nat} {x y : Int32} : (emS τ n x y).1 13 = nI (n + 1) ∧ (emS τ n x y).2.1 13 = upd (τ.2.1 13) n x ∧ (emS τ n x y).2.1 14 = upd (τ.2.1 14) n y ∧ (emS τ n x y).2.1 15 = τ.2.1 15 := by
  unfold emS
  refine ⟨ss_same, ?_, ?_, ?_⟩
  · rw [ss_r, sr_ne (by omega), sr_same]
  · rw [ss_r, sr_same, sr_ne (by omega)]
  · rw [ss_r, sr_ne (by omega), sr_ne (by omega)]
theorem FmE.em {c0 : Nat} {τ τ' : St} {n : Nat} {x y : Int32} (h : FmE c0 τ τ') (hn : c0 ≤ n) : FmE c0 τ (emS τ' n x y) := by
  refine ⟨fun i h1 h2 h3 h4 h5 h6 => ?_, fun r hr => ?_, fun j hj => ?_, h.2.2.2⟩
  · unfold emS; rw [ss_ne h5]; exact h.1 i h1 h2 h3 h4 h5 h6
  · unfold emS; rw [ss_r, sr_ne (by omega), sr_ne (by omega)]; exact h.2.1 r hr
  · obtain ⟨-, r2, r3, -⟩ := emS_r (τ := τ') (n := n) (x := x) (y := y)
    rw [r2, r3, pk_un (by omega), pk_un (by omega)]
    exact h.2.2.1 j hj
/-- waits and code -/
def WC (c0 : Nat) (ws : List Nat) (c : Cd) (τ : St) : Prop := τ.1 14 = nI ws.length ∧ wsR (τ.2.1 15) ws ∧ τ.1 13 = nI (c0 + c.length) ∧ cdR (τ.2.1 13) (τ.2.1 14) c0 c
theorem wk_in {w : Nat} {r : List Nat} (h : wOK (w :: r)) : w = 6 ∨ w = 8 ∨ w = 9 ∨ w = 10 ∨ w = 15 ∨ w = 16 := by
  rcases h.2 with q | ⟨q, -⟩ | ⟨q, -⟩ <;> omega
theorem t_out {F : Nat} (s : Bool) {c0 : Nat} : ∀ (ws : List Nat) (c : Cd) (n : Nat) (τ : St), wOK ws → WC c0 ws c τ → ws.length < n → ws.length < 64 → c0 + c.length + nop ws ≤ 401 → ∃ τ', f_X8_comesOut_0 F n τ (bI s) = some τ' ∧ WC c0 (outc s ws c).1 (outc s ws c).2 τ' ∧ FmE c0 τ τ' ∧ (∀ k, k ≠ 13 → k ≠ 14 → τ'.1 k = τ.1 k) ∧ τ'.2.1 15 = τ.2.1 15 := by
  intro ws
  induction ws with
  | nil =>
    intro c n τ _ W hn _ _
    obtain ⟨n, rfl⟩ : ∃ k, n = k + 1 := ⟨n - 1, by omega⟩
    have w1 : τ.1 14 = nI 0 := W.1
    refine ⟨τ, ?_, W, FmE.refl τ, fun _ _ _ => rfl, rfl⟩
    rw [f_X8_comesOut_0]
    simp (disch := omega) only [↓bnd_i, ↓cal_s, ↓cal_n, ↓cal2_s, ↓cal2_n, cal_s, cal2_s, ↓reduceIte, fa_lit, m1_lit, m2_lit, m1_lt, m2_lt, m1_eq, m2_eq, m1_le, m2_le, le_m1, le_m2, lt_m1, lt_m2, m12, m21, m1_m1, n_lt, n_le, n_eq, lt_t, lt_f, le_t, le_f, eq_t, eq_f, n_cl, inb_ok, n_add, pk_mul, pk_sub, n_rem, n_div, n_dec, n_mx, n_mn, eq_m1, eq_m2, ss_same, ss_ne, ss_r, ss_l, sr_f, sr_l, sr_same, sr_ne, sw_f, sw_l, sw_at, sw_ne, pk_us, pk_un, bI_t, bI_f, not_true_eq_false, not_false_eq_true, eq_self, and_true, true_and, and_false, false_and, or_true, true_or, or_false, false_or, decide_true, decide_false, Bool.false_eq_true, Bool.true_eq_false, w1]
  | cons w r ih =>
    intro c n τ ok W hn h64 hc
    have hn' : r.length + 1 < n := hn
    have h64' : r.length + 1 < 64 := h64
    obtain ⟨n, rfl⟩ : ∃ k, n = k + 1 := ⟨n - 1, by omega⟩
    obtain ⟨w1, w2, w3, w4⟩ := W
    have w1' : τ.1 14 = nI (r.length + 1) := w1
    have w2' : τ.2.1 15 r.length = nI w := w2.1
    have wk := wk_in ok
    rw [f_X8_comesOut_0, outc]
    by_cases q : w = 6 ∨ (s = true ∧ (w = 8 ∨ w = 9))
    · rw [if_pos q]
      refine ⟨τ, ?_, ⟨w1, w2, w3, w4⟩, FmE.refl τ, fun _ _ _ => rfl, rfl⟩
      by_cases q6 : w = 6
      · simp (disch := omega) only [↓bnd_i, ↓cal_s, ↓cal_n, ↓cal2_s, ↓cal2_n, cal_s, cal2_s, ↓reduceIte, fa_lit, m1_lit, m2_lit, m1_lt, m2_lt, m1_eq, m2_eq, m1_le, m2_le, le_m1, le_m2, lt_m1, lt_m2, m12, m21, m1_m1, n_lt, n_le, n_eq, lt_t, lt_f, le_t, le_f, eq_t, eq_f, n_cl, inb_ok, n_add, pk_mul, pk_sub, n_rem, n_div, n_dec, n_mx, n_mn, eq_m1, eq_m2, ss_same, ss_ne, ss_r, ss_l, sr_f, sr_l, sr_same, sr_ne, sw_f, sw_l, sw_at, sw_ne, pk_us, pk_un, bI_t, bI_f, not_true_eq_false, not_false_eq_true, eq_self, and_true, true_and, and_false, false_and, or_true, true_or, or_false, false_or, decide_true, decide_false, Bool.false_eq_true, Bool.true_eq_false, w1', Nat.add_sub_cancel, w2']
      · have q8 : s = true ∧ (w = 8 ∨ w = 9) := by
          rcases q with z | z
          · exact absurd z q6
          · exact z
        rw [q8.1]
        by_cases q9 : w = 8
        · simp (disch := omega) only [↓bnd_i, ↓cal_s, ↓cal_n, ↓cal2_s, ↓cal2_n, cal_s, cal2_s, ↓reduceIte, fa_lit, m1_lit, m2_lit, m1_lt, m2_lt, m1_eq, m2_eq, m1_le, m2_le, le_m1, le_m2, lt_m1, lt_m2, m12, m21, m1_m1, n_lt, n_le, n_eq, lt_t, lt_f, le_t, le_f, eq_t, eq_f, n_cl, inb_ok, n_add, pk_mul, pk_sub, n_rem, n_div, n_dec, n_mx, n_mn, eq_m1, eq_m2, ss_same, ss_ne, ss_r, ss_l, sr_f, sr_l, sr_same, sr_ne, sw_f, sw_l, sw_at, sw_ne, pk_us, pk_un, bI_t, bI_f, not_true_eq_false, not_false_eq_true, eq_self, and_true, true_and, and_false, false_and, or_true, true_or, or_false, false_or, decide_true, decide_false, Bool.false_eq_true, Bool.true_eq_false, w1', Nat.add_sub_cancel, w2']
        · simp (disch := omega) only [↓bnd_i, ↓cal_s, ↓cal_n, ↓cal2_s, ↓cal2_n, cal_s, cal2_s, ↓reduceIte, fa_lit, m1_lit, m2_lit, m1_lt, m2_lt, m1_eq, m2_eq, m1_le, m2_le, le_m1, le_m2, lt_m1, lt_m2, m12, m21, m1_m1, n_lt, n_le, n_eq, lt_t, lt_f, le_t, le_f, eq_t, eq_f, n_cl, inb_ok, n_add, pk_mul, pk_sub, n_rem, n_div, n_dec, n_mx, n_mn, eq_m1, eq_m2, ss_same, ss_ne, ss_r, ss_l, sr_f, sr_l, sr_same, sr_ne, sw_f, sw_l, sw_at, sw_ne, pk_us, pk_un, bI_t, bI_f, not_true_eq_false, not_false_eq_true, eq_self, and_true, true_and, and_false, false_and, or_true, true_or, or_false, false_or, decide_true, decide_false, Bool.false_eq_true, Bool.true_eq_false, w1', Nat.add_sub_cancel, w2']
    · rw [if_neg q]
      have w6 : w ≠ 6 := fun z => q (Or.inl z)
      have hnop : nop (w :: r) = nop r + 1 := by rw [nop, if_neg w6]
      have em := t_emit (F := F) (τ := ss τ 14 (nI r.length)) (n := c0 + c.length) (by rw [ss_ne (by omega)]; exact w3) (by omega) (nI (opc w)) (nI 0)
      obtain ⟨r1, r2, r3, r4⟩ := emS_r (τ := ss τ 14 (nI r.length)) (n := c0 + c.length) (x := nI (opc w)) (y := nI 0)
      have W' : WC c0 r ((opc w, 0) :: c) (emS (ss τ 14 (nI r.length)) (c0 + c.length) (nI (opc w)) (nI 0)) := by
        refine ⟨?_, ?_, ?_, ?_⟩
        · rw [emS_f (by omega), ss_same]
        · rw [r4]; exact w2.2
        · rw [r1]; rfl
        · rw [r2, r3]
          exact ⟨pk_us, pk_us, cdR_upd (Nat.le_refl _) w4⟩
      have fr : FmE c0 τ (emS (ss τ 14 (nI r.length)) (c0 + c.length) (nI (opc w)) (nI 0)) := ((FmE.refl τ).ss (by omega)).em (by omega)
      obtain ⟨τ', g1, g2, g3, g4, g5⟩ := ih ((opc w, 0) :: c) n _ ok.1 W' (by omega) (by omega) (by show c0 + (c.length + 1) + nop r ≤ 401; omega)
      refine ⟨τ', ?_, g2, fr.trans g3, fun k h1 h2 => by rw [g4 k h1 h2, emS_f h1, ss_ne h2], by rw [g5, r4]; rfl⟩
      have into : f_X8_comesOut_42 F (f_X8_comesOut_0 F n) τ (bI s) (nI w) = some τ' := by
        unfold f_X8_comesOut_42 f_X8_comesOut_95
        by_cases k8 : w = 8
        · have o : opc w = 2 := by rw [k8]; rfl
          rw [o] at em
          rw [o] at g1
          simp (disch := omega) only [↓bnd_i, ↓cal_s, ↓cal_n, ↓cal2_s, ↓cal2_n, cal_s, cal2_s, ↓reduceIte, fa_lit, m1_lit, m2_lit, m1_lt, m2_lt, m1_eq, m2_eq, m1_le, m2_le, le_m1, le_m2, lt_m1, lt_m2, m12, m21, m1_m1, n_lt, n_le, n_eq, lt_t, lt_f, le_t, le_f, eq_t, eq_f, n_cl, inb_ok, n_add, pk_mul, pk_sub, n_rem, n_div, n_dec, n_mx, n_mn, eq_m1, eq_m2, ss_same, ss_ne, ss_r, ss_l, sr_f, sr_l, sr_same, sr_ne, sw_f, sw_l, sw_at, sw_ne, pk_us, pk_un, bI_t, bI_f, not_true_eq_false, not_false_eq_true, eq_self, and_true, true_and, and_false, false_and, or_true, true_or, or_false, false_or, decide_true, decide_false, Bool.false_eq_true, Bool.true_eq_false, ↓cal_w (em), em, w1', Nat.add_sub_cancel]
          exact g1
        · by_cases k9 : w = 9
          · have o : opc w = 3 := by rw [k9]; rfl
            rw [o] at em
            rw [o] at g1
            simp (disch := omega) only [↓bnd_i, ↓cal_s, ↓cal_n, ↓cal2_s, ↓cal2_n, cal_s, cal2_s, ↓reduceIte, fa_lit, m1_lit, m2_lit, m1_lt, m2_lt, m1_eq, m2_eq, m1_le, m2_le, le_m1, le_m2, lt_m1, lt_m2, m12, m21, m1_m1, n_lt, n_le, n_eq, lt_t, lt_f, le_t, le_f, eq_t, eq_f, n_cl, inb_ok, n_add, pk_mul, pk_sub, n_rem, n_div, n_dec, n_mx, n_mn, eq_m1, eq_m2, ss_same, ss_ne, ss_r, ss_l, sr_f, sr_l, sr_same, sr_ne, sw_f, sw_l, sw_at, sw_ne, pk_us, pk_un, bI_t, bI_f, not_true_eq_false, not_false_eq_true, eq_self, and_true, true_and, and_false, false_and, or_true, true_or, or_false, false_or, decide_true, decide_false, Bool.false_eq_true, Bool.true_eq_false, ↓cal_w (em), em, w1', Nat.add_sub_cancel]
            exact g1
          · by_cases k10 : w = 10
            · have o : opc w = 4 := by rw [k10]; rfl
              rw [o] at em
              rw [o] at g1
              simp (disch := omega) only [↓bnd_i, ↓cal_s, ↓cal_n, ↓cal2_s, ↓cal2_n, cal_s, cal2_s, ↓reduceIte, fa_lit, m1_lit, m2_lit, m1_lt, m2_lt, m1_eq, m2_eq, m1_le, m2_le, le_m1, le_m2, lt_m1, lt_m2, m12, m21, m1_m1, n_lt, n_le, n_eq, lt_t, lt_f, le_t, le_f, eq_t, eq_f, n_cl, inb_ok, n_add, pk_mul, pk_sub, n_rem, n_div, n_dec, n_mx, n_mn, eq_m1, eq_m2, ss_same, ss_ne, ss_r, ss_l, sr_f, sr_l, sr_same, sr_ne, sw_f, sw_l, sw_at, sw_ne, pk_us, pk_un, bI_t, bI_f, not_true_eq_false, not_false_eq_true, eq_self, and_true, true_and, and_false, false_and, or_true, true_or, or_false, false_or, decide_true, decide_false, Bool.false_eq_true, Bool.true_eq_false, ↓cal_w (em), em, w1', Nat.add_sub_cancel]
              exact g1
            · by_cases k15 : w = 15
              · have o : opc w = 5 := by rw [k15]; rfl
                rw [o] at em
                rw [o] at g1
                simp (disch := omega) only [↓bnd_i, ↓cal_s, ↓cal_n, ↓cal2_s, ↓cal2_n, cal_s, cal2_s, ↓reduceIte, fa_lit, m1_lit, m2_lit, m1_lt, m2_lt, m1_eq, m2_eq, m1_le, m2_le, le_m1, le_m2, lt_m1, lt_m2, m12, m21, m1_m1, n_lt, n_le, n_eq, lt_t, lt_f, le_t, le_f, eq_t, eq_f, n_cl, inb_ok, n_add, pk_mul, pk_sub, n_rem, n_div, n_dec, n_mx, n_mn, eq_m1, eq_m2, ss_same, ss_ne, ss_r, ss_l, sr_f, sr_l, sr_same, sr_ne, sw_f, sw_l, sw_at, sw_ne, pk_us, pk_un, bI_t, bI_f, not_true_eq_false, not_false_eq_true, eq_self, and_true, true_and, and_false, false_and, or_true, true_or, or_false, false_or, decide_true, decide_false, Bool.false_eq_true, Bool.true_eq_false, ↓cal_w (em), em, w1', Nat.add_sub_cancel]
                exact g1
              · have o : opc w = 6 := by rw [show w = 16 by omega]; rfl
                rw [o] at em
                rw [o] at g1
                simp (disch := omega) only [↓bnd_i, ↓cal_s, ↓cal_n, ↓cal2_s, ↓cal2_n, cal_s, cal2_s, ↓reduceIte, fa_lit, m1_lit, m2_lit, m1_lt, m2_lt, m1_eq, m2_eq, m1_le, m2_le, le_m1, le_m2, lt_m1, lt_m2, m12, m21, m1_m1, n_lt, n_le, n_eq, lt_t, lt_f, le_t, le_f, eq_t, eq_f, n_cl, inb_ok, n_add, pk_mul, pk_sub, n_rem, n_div, n_dec, n_mx, n_mn, eq_m1, eq_m2, ss_same, ss_ne, ss_r, ss_l, sr_f, sr_l, sr_same, sr_ne, sw_f, sw_l, sw_at, sw_ne, pk_us, pk_un, bI_t, bI_f, not_true_eq_false, not_false_eq_true, eq_self, and_true, true_and, and_false, false_and, or_true, true_or, or_false, false_or, decide_true, decide_false, Bool.false_eq_true, Bool.true_eq_false, ↓cal_w (em), em, w1', Nat.add_sub_cancel]
                exact g1
      cases s
      · have into' : f_X8_comesOut_42 F (f_X8_comesOut_0 F n) τ (nI 0) (nI w) = some τ' := into
        simp (disch := omega) only [↓bnd_i, ↓cal_s, ↓cal_n, ↓cal2_s, ↓cal2_n, cal_s, cal2_s, ↓reduceIte, fa_lit, m1_lit, m2_lit, m1_lt, m2_lt, m1_eq, m2_eq, m1_le, m2_le, le_m1, le_m2, lt_m1, lt_m2, m12, m21, m1_m1, n_lt, n_le, n_eq, lt_t, lt_f, le_t, le_f, eq_t, eq_f, n_cl, inb_ok, n_add, pk_mul, pk_sub, n_rem, n_div, n_dec, n_mx, n_mn, eq_m1, eq_m2, ss_same, ss_ne, ss_r, ss_l, sr_f, sr_l, sr_same, sr_ne, sw_f, sw_l, sw_at, sw_ne, pk_us, pk_un, bI_t, bI_f, not_true_eq_false, not_false_eq_true, eq_self, and_true, true_and, and_false, false_and, or_true, true_or, or_false, false_or, decide_true, decide_false, Bool.false_eq_true, Bool.true_eq_false, w1', Nat.add_sub_cancel, w2']
        exact into'
      · have k89 : ¬ (w = 8 ∨ w = 9) := fun z => q (Or.inr ⟨rfl, z⟩)
        have into' : f_X8_comesOut_42 F (f_X8_comesOut_0 F n) τ (nI 1) (nI w) = some τ' := into
        simp (disch := omega) only [↓bnd_i, ↓cal_s, ↓cal_n, ↓cal2_s, ↓cal2_n, cal_s, cal2_s, ↓reduceIte, fa_lit, m1_lit, m2_lit, m1_lt, m2_lt, m1_eq, m2_eq, m1_le, m2_le, le_m1, le_m2, lt_m1, lt_m2, m12, m21, m1_m1, n_lt, n_le, n_eq, lt_t, lt_f, le_t, le_f, eq_t, eq_f, n_cl, inb_ok, n_add, pk_mul, pk_sub, n_rem, n_div, n_dec, n_mx, n_mn, eq_m1, eq_m2, ss_same, ss_ne, ss_r, ss_l, sr_f, sr_l, sr_same, sr_ne, sw_f, sw_l, sw_at, sw_ne, pk_us, pk_un, bI_t, bI_f, not_true_eq_false, not_false_eq_true, eq_self, and_true, true_and, and_false, false_and, or_true, true_or, or_false, false_or, decide_true, decide_false, Bool.false_eq_true, Bool.true_eq_false, w1', Nat.add_sub_cancel, w2']
        exact into'
section
variable {kd vl pl : Nat → Nat} {e : Nat}
theorem mk_c {k m : Nat} (hk : k ≤ 30) (h1 : k ≤ 29 → m = mkOf k) (h2 : k = 30 → m = 1 ∨ m = 3) : (k < 20 ∧ m = 20 + k) ∨ (k = 20 ∧ m = 2) ∨ (k = 21 ∧ m = 4) ∨ (k = 22 ∧ m = 8) ∨ (k = 23 ∧ m = 9) ∨ (k = 24 ∧ m = 10) ∨ (k = 25 ∧ m = 15) ∨ (k = 26 ∧ m = 16) ∨ (k = 27 ∧ m = 6) ∨ (k = 28 ∧ m = 7) ∨ (k = 29 ∧ m = 0) ∨ (k = 30 ∧ (m = 1 ∨ m = 3)) := by
  by_cases c : k = 30
  · subst c
    rcases h2 rfl with rfl | rfl <;> decide
  · have h := h1 (by omega)
    by_cases c20 : k < 20
    · unfold mkOf at h
      rw [if_pos c20] at h
      exact Or.inl ⟨c20, h⟩
    · rcases (show k = 20 ∨ k = 21 ∨ k = 22 ∨ k = 23 ∨ k = 24 ∨ k = 25 ∨ k = 26 ∨ k = 27 ∨ k = 28 ∨ k = 29 by omega) with rfl | rfl | rfl | rfl | rfl | rfl | rfl | rfl | rfl | rfl <;> subst h <;> decide
/-- the model's token here -/
def MK (kd vl pl : Nat → Nat) (a m : Nat) (τ : St) : Prop := τ.2.1 3 a = nI m ∧ m < 50 ∧ ((kd a < 20 ∧ m = 20 + kd a) ∨ (kd a = 20 ∧ m = 2) ∨ (kd a = 21 ∧ m = 4) ∨ (kd a = 22 ∧ m = 8) ∨ (kd a = 23 ∧ m = 9) ∨ (kd a = 24 ∧ m = 10) ∨ (kd a = 25 ∧ m = 15) ∨ (kd a = 26 ∧ m = 16) ∨ (kd a = 27 ∧ m = 6) ∨ (kd a = 28 ∧ m = 7) ∨ (kd a = 29 ∧ m = 0) ∨ (kd a = 30 ∧ (m = 1 ∨ m = 3))) ∧ τ.2.1 4 a = nI (pl a) ∧ (kd a = 20 → τ.2.1 5 a = nI (vl a))
theorem MK.of (E : TkE kd vl pl e) {τ : St} (M : TkM kd vl pl e τ) {a : Nat} (h1 : a ≤ e) (h2 : a ≤ 400) : ∃ m, MK kd vl pl a m τ := by
  obtain ⟨e1, e2, e3, e4, e5, e6⟩ := E
  obtain ⟨⟨m, m1, m2, m3, m4⟩, m5, m6⟩ := M a h1 h2
  have kle : kd a ≤ 30 := by
    by_cases q : a = e
    · rw [q]; rcases e3 with z | z <;> omega
    · have := e2 a (by omega); omega
  exact ⟨m, m1, m2, mk_c kle m3 m4, m5, m6⟩
theorem MK.i6 {τ : St} {a m : Nat} (K : MK kd vl pl a m τ) : decide (m = 6) = decide (kd a = 27) := by
  obtain ⟨-, -, k, -⟩ := K
  exact decide_eq_decide.mpr (by omega)
theorem MK.i7 {τ : St} {a m : Nat} (K : MK kd vl pl a m τ) : decide (m = 7) = decide (kd a = 28) := by
  obtain ⟨-, -, k, -⟩ := K
  exact decide_eq_decide.mpr (by omega)
theorem MK.i2 {τ : St} {a m : Nat} (K : MK kd vl pl a m τ) : decide (m = 2) = decide (kd a = 20) := by
  obtain ⟨-, -, k, -⟩ := K
  exact decide_eq_decide.mpr (by omega)
theorem MK.i4 {τ : St} {a m : Nat} (K : MK kd vl pl a m τ) : decide (m = 4) = decide (kd a = 21) := by
  obtain ⟨-, -, k, -⟩ := K
  exact decide_eq_decide.mpr (by omega)
theorem MK.i8 {τ : St} {a m : Nat} (K : MK kd vl pl a m τ) : decide (m = 8) = decide (kd a = 22) := by
  obtain ⟨-, -, k, -⟩ := K
  exact decide_eq_decide.mpr (by omega)
theorem MK.i9 {τ : St} {a m : Nat} (K : MK kd vl pl a m τ) : decide (m = 9) = decide (kd a = 23) := by
  obtain ⟨-, -, k, -⟩ := K
  exact decide_eq_decide.mpr (by omega)
theorem MK.i10 {τ : St} {a m : Nat} (K : MK kd vl pl a m τ) : decide (m = 10) = decide (kd a = 24) := by
  obtain ⟨-, -, k, -⟩ := K
  exact decide_eq_decide.mpr (by omega)
theorem MK.i15 {τ : St} {a m : Nat} (K : MK kd vl pl a m τ) : decide (m = 15) = decide (kd a = 25) := by
  obtain ⟨-, -, k, -⟩ := K
  exact decide_eq_decide.mpr (by omega)
theorem MK.i16 {τ : St} {a m : Nat} (K : MK kd vl pl a m τ) : decide (m = 16) = decide (kd a = 26) := by
  obtain ⟨-, -, k, -⟩ := K
  exact decide_eq_decide.mpr (by omega)
theorem MK.i0 {τ : St} {a m : Nat} (K : MK kd vl pl a m τ) : decide (m = 0) = decide (kd a = 29) := by
  obtain ⟨-, -, k, -⟩ := K
  exact decide_eq_decide.mpr (by omega)
theorem MK.i20 {τ : St} {a m : Nat} (K : MK kd vl pl a m τ) : decide (m = 20) = decide (kd a = 0) := by
  obtain ⟨-, -, k, -⟩ := K
  exact decide_eq_decide.mpr (by omega)
theorem MK.i21 {τ : St} {a m : Nat} (K : MK kd vl pl a m τ) : decide (m = 21) = decide (kd a = 1) := by
  obtain ⟨-, -, k, -⟩ := K
  exact decide_eq_decide.mpr (by omega)
theorem MK.w {τ : St} {a m : Nat} (K : MK kd vl pl a m τ) (h : kd a < 20) : m = 20 + kd a := by
  obtain ⟨-, -, k, -⟩ := K
  omega
theorem MK.n {τ : St} {a m : Nat} (K : MK kd vl pl a m τ) (h : ¬ kd a < 20) : m < 20 := by
  obtain ⟨-, -, k, -⟩ := K
  omega
theorem MK.o {τ : St} {a m : Nat} (K : MK kd vl pl a m τ) (h : kd a ≤ 29) : m = mkOf (kd a) := by
  obtain ⟨-, -, k, -⟩ := K
  by_cases c : kd a < 20
  · unfold mkOf; rw [if_pos c]; omega
  · rcases (show kd a = 20 ∨ kd a = 21 ∨ kd a = 22 ∨ kd a = 23 ∨ kd a = 24 ∨ kd a = 25 ∨ kd a = 26 ∨ kd a = 27 ∨ kd a = 28 ∨ kd a = 29 by omega) with q | q | q | q | q | q | q | q | q | q <;> rw [q] at k ⊢ <;> simp at k <;> rw [k] <;> rfl
theorem t_is {F : Nat} {τ : St} {a m x : Nat} (h6 : τ.1 6 = nI 0) (h4 : τ.1 4 = nI a) (ha : a ≤ 400) (K : MK kd vl pl a m τ) (hx : x < 50) : f_X8_is F τ (nI x) = some (bI (decide (m = x))) := by
  obtain ⟨k1, k2, -⟩ := K
  unfold f_X8_is
  by_cases c : m = x
  · rw [decide_eq_true c]
    simp (disch := omega) only [↓bnd_i, ↓cal_s, ↓cal_n, ↓cal2_s, ↓cal2_n, cal_s, cal2_s, ↓reduceIte, fa_lit, m1_lit, m2_lit, m1_lt, m2_lt, m1_eq, m2_eq, m1_le, m2_le, le_m1, le_m2, lt_m1, lt_m2, m12, m21, m1_m1, n_lt, n_le, n_eq, lt_t, lt_f, le_t, le_f, eq_t, eq_f, n_cl, inb_ok, n_add, pk_mul, pk_sub, n_rem, n_div, n_dec, n_mx, n_mn, eq_m1, eq_m2, ss_same, ss_ne, ss_r, ss_l, sr_f, sr_l, sr_same, sr_ne, sw_f, sw_l, sw_at, sw_ne, pk_us, pk_un, bI_t, bI_f, not_true_eq_false, not_false_eq_true, eq_self, and_true, true_and, and_false, false_and, or_true, true_or, or_false, false_or, decide_true, decide_false, Bool.false_eq_true, Bool.true_eq_false, h6, h4, k1]
  · rw [decide_eq_false c]
    simp (disch := omega) only [↓bnd_i, ↓cal_s, ↓cal_n, ↓cal2_s, ↓cal2_n, cal_s, cal2_s, ↓reduceIte, fa_lit, m1_lit, m2_lit, m1_lt, m2_lt, m1_eq, m2_eq, m1_le, m2_le, le_m1, le_m2, lt_m1, lt_m2, m12, m21, m1_m1, n_lt, n_le, n_eq, lt_t, lt_f, le_t, le_f, eq_t, eq_f, n_cl, inb_ok, n_add, pk_mul, pk_sub, n_rem, n_div, n_dec, n_mx, n_mn, eq_m1, eq_m2, ss_same, ss_ne, ss_r, ss_l, sr_f, sr_l, sr_same, sr_ne, sw_f, sw_l, sw_at, sw_ne, pk_us, pk_un, bI_t, bI_f, not_true_eq_false, not_false_eq_true, eq_self, and_true, true_and, and_false, false_and, or_true, true_or, or_false, false_or, decide_true, decide_false, Bool.false_eq_true, Bool.true_eq_false, h6, h4, k1]
theorem t_isF {F : Nat} {τ : St} {x : Nat} {y : Int32} (h6 : τ.1 6 = nI x) (h0 : 1 ≤ x ∧ x ≤ 5) : f_X8_is F τ y = some (nI 0) := by
  unfold f_X8_is
  simp (disch := omega) only [↓bnd_i, ↓cal_s, ↓cal_n, ↓cal2_s, ↓cal2_n, cal_s, cal2_s, ↓reduceIte, fa_lit, m1_lit, m2_lit, m1_lt, m2_lt, m1_eq, m2_eq, m1_le, m2_le, le_m1, le_m2, lt_m1, lt_m2, m12, m21, m1_m1, n_lt, n_le, n_eq, lt_t, lt_f, le_t, le_f, eq_t, eq_f, n_cl, inb_ok, n_add, pk_mul, pk_sub, n_rem, n_div, n_dec, n_mx, n_mn, eq_m1, eq_m2, ss_same, ss_ne, ss_r, ss_l, sr_f, sr_l, sr_same, sr_ne, sw_f, sw_l, sw_at, sw_ne, pk_us, pk_un, bI_t, bI_f, not_true_eq_false, not_false_eq_true, eq_self, and_true, true_and, and_false, false_and, or_true, true_or, or_false, false_or, decide_true, decide_false, Bool.false_eq_true, Bool.true_eq_false, h6]
theorem t_fail0 {F : Nat} {τ : St} {a m x : Nat} (h6 : τ.1 6 = nI 0) (h4 : τ.1 4 = nI a) (ha : a ≤ 400) (K : MK kd vl pl a m τ) : f_X8_fail F τ (nI x) = some (ss (ss τ 6 (nI x)) 7 (nI (pl a))) := by
  obtain ⟨-, -, -, k4, -⟩ := K
  unfold f_X8_fail
  simp (disch := omega) only [↓bnd_i, ↓cal_s, ↓cal_n, ↓cal2_s, ↓cal2_n, cal_s, cal2_s, ↓reduceIte, fa_lit, m1_lit, m2_lit, m1_lt, m2_lt, m1_eq, m2_eq, m1_le, m2_le, le_m1, le_m2, lt_m1, lt_m2, m12, m21, m1_m1, n_lt, n_le, n_eq, lt_t, lt_f, le_t, le_f, eq_t, eq_f, n_cl, inb_ok, n_add, pk_mul, pk_sub, n_rem, n_div, n_dec, n_mx, n_mn, eq_m1, eq_m2, ss_same, ss_ne, ss_r, ss_l, sr_f, sr_l, sr_same, sr_ne, sw_f, sw_l, sw_at, sw_ne, pk_us, pk_un, bI_t, bI_f, not_true_eq_false, not_false_eq_true, eq_self, and_true, true_and, and_false, false_and, or_true, true_or, or_false, false_or, decide_true, decide_false, Bool.false_eq_true, Bool.true_eq_false, h6, h4, k4]
theorem t_failF {F : Nat} {τ : St} {x : Nat} {y : Int32} (h6 : τ.1 6 = nI x) (h0 : 1 ≤ x ∧ x ≤ 5) : f_X8_fail F τ y = some τ := by
  unfold f_X8_fail
  simp (disch := omega) only [↓bnd_i, ↓cal_s, ↓cal_n, ↓cal2_s, ↓cal2_n, cal_s, cal2_s, ↓reduceIte, fa_lit, m1_lit, m2_lit, m1_lt, m2_lt, m1_eq, m2_eq, m1_le, m2_le, le_m1, le_m2, lt_m1, lt_m2, m12, m21, m1_m1, n_lt, n_le, n_eq, lt_t, lt_f, le_t, le_f, eq_t, eq_f, n_cl, inb_ok, n_add, pk_mul, pk_sub, n_rem, n_div, n_dec, n_mx, n_mn, eq_m1, eq_m2, ss_same, ss_ne, ss_r, ss_l, sr_f, sr_l, sr_same, sr_ne, sw_f, sw_l, sw_at, sw_ne, pk_us, pk_un, bI_t, bI_f, not_true_eq_false, not_false_eq_true, eq_self, and_true, true_and, and_false, false_and, or_true, true_or, or_false, false_or, decide_true, decide_false, Bool.false_eq_true, Bool.true_eq_false, h6]
theorem t_goesOn {F : Nat} {τ : St} {a m : Nat} (h6 : τ.1 6 = nI 0) (h4 : τ.1 4 = nI a) (ha : a ≤ 400) (K : MK kd vl pl a m τ) : f_X8_goesOn F τ = some (if a < 400 then ss τ 4 (nI (a + 1)) else ss (ss τ 6 (nI 2)) 7 (nI (pl a))) := by
  have f := t_fail0 (F := F) (x := 2) h6 h4 ha K
  unfold f_X8_goesOn
  by_cases c : a < 400
  · rw [if_pos c]
    simp (disch := omega) only [↓bnd_i, ↓cal_s, ↓cal_n, ↓cal2_s, ↓cal2_n, cal_s, cal2_s, ↓reduceIte, fa_lit, m1_lit, m2_lit, m1_lt, m2_lt, m1_eq, m2_eq, m1_le, m2_le, le_m1, le_m2, lt_m1, lt_m2, m12, m21, m1_m1, n_lt, n_le, n_eq, lt_t, lt_f, le_t, le_f, eq_t, eq_f, n_cl, inb_ok, n_add, pk_mul, pk_sub, n_rem, n_div, n_dec, n_mx, n_mn, eq_m1, eq_m2, ss_same, ss_ne, ss_r, ss_l, sr_f, sr_l, sr_same, sr_ne, sw_f, sw_l, sw_at, sw_ne, pk_us, pk_un, bI_t, bI_f, not_true_eq_false, not_false_eq_true, eq_self, and_true, true_and, and_false, false_and, or_true, true_or, or_false, false_or, decide_true, decide_false, Bool.false_eq_true, Bool.true_eq_false, h4]
  · rw [if_neg c]
    simp (disch := omega) only [↓bnd_i, ↓cal_s, ↓cal_n, ↓cal2_s, ↓cal2_n, cal_s, cal2_s, ↓reduceIte, fa_lit, m1_lit, m2_lit, m1_lt, m2_lt, m1_eq, m2_eq, m1_le, m2_le, le_m1, le_m2, lt_m1, lt_m2, m12, m21, m1_m1, n_lt, n_le, n_eq, lt_t, lt_f, le_t, le_f, eq_t, eq_f, n_cl, inb_ok, n_add, pk_mul, pk_sub, n_rem, n_div, n_dec, n_mx, n_mn, eq_m1, eq_m2, ss_same, ss_ne, ss_r, ss_l, sr_f, sr_l, sr_same, sr_ne, sw_f, sw_l, sw_at, sw_ne, pk_us, pk_un, bI_t, bI_f, not_true_eq_false, not_false_eq_true, eq_self, and_true, true_and, and_false, false_and, or_true, true_or, or_false, false_or, decide_true, decide_false, Bool.false_eq_true, Bool.true_eq_false, ↓cal_w (f), f, h4]
theorem t_goesOnF {F : Nat} {τ : St} {a x : Nat} (h6 : τ.1 6 = nI x) (h0 : 1 ≤ x ∧ x ≤ 5) (h4 : τ.1 4 = nI a) (ha : a ≤ 400) : ∃ a', a' ≤ 400 ∧ f_X8_goesOn F τ = some (ss τ 4 (nI a')) := by
  have f := t_failF (F := F) (y := nI 2) h6 h0
  unfold f_X8_goesOn
  by_cases c : a = 400
  · refine ⟨400, by omega, ?_⟩
    have : ss τ 4 (nI 400) = τ := by
      unfold ss
      rw [← c, ← h4]
      have : upd τ.1 4 (τ.1 4) = τ.1 := by
        funext j
        simp only [upd]
        by_cases q : j = 4 <;> simp [q]
      rw [this]
    rw [this]
    simp (disch := omega) only [↓bnd_i, ↓cal_s, ↓cal_n, ↓cal2_s, ↓cal2_n, cal_s, cal2_s, ↓reduceIte, fa_lit, m1_lit, m2_lit, m1_lt, m2_lt, m1_eq, m2_eq, m1_le, m2_le, le_m1, le_m2, lt_m1, lt_m2, m12, m21, m1_m1, n_lt, n_le, n_eq, lt_t, lt_f, le_t, le_f, eq_t, eq_f, n_cl, inb_ok, n_add, pk_mul, pk_sub, n_rem, n_div, n_dec, n_mx, n_mn, eq_m1, eq_m2, ss_same, ss_ne, ss_r, ss_l, sr_f, sr_l, sr_same, sr_ne, sw_f, sw_l, sw_at, sw_ne, pk_us, pk_un, bI_t, bI_f, not_true_eq_false, not_false_eq_true, eq_self, and_true, true_and, and_false, false_and, or_true, true_or, or_false, false_or, decide_true, decide_false, Bool.false_eq_true, Bool.true_eq_false, ↓cal_w (f), f, h4]
  · refine ⟨a + 1, by omega, ?_⟩
    simp (disch := omega) only [↓bnd_i, ↓cal_s, ↓cal_n, ↓cal2_s, ↓cal2_n, cal_s, cal2_s, ↓reduceIte, fa_lit, m1_lit, m2_lit, m1_lt, m2_lt, m1_eq, m2_eq, m1_le, m2_le, le_m1, le_m2, lt_m1, lt_m2, m12, m21, m1_m1, n_lt, n_le, n_eq, lt_t, lt_f, le_t, le_f, eq_t, eq_f, n_cl, inb_ok, n_add, pk_mul, pk_sub, n_rem, n_div, n_dec, n_mx, n_mn, eq_m1, eq_m2, ss_same, ss_ne, ss_r, ss_l, sr_f, sr_l, sr_same, sr_ne, sw_f, sw_l, sw_at, sw_ne, pk_us, pk_un, bI_t, bI_f, not_true_eq_false, not_false_eq_true, eq_self, and_true, true_and, and_false, false_and, or_true, true_or, or_false, false_or, decide_true, decide_false, Bool.false_eq_true, Bool.true_eq_false, h4]
theorem MK.fr {τ τ' : St} {a m : Nat} (K : MK kd vl pl a m τ) (h : ∀ r, r = 3 ∨ r = 4 ∨ r = 5 → τ'.2.1 r = τ.2.1 r) : MK kd vl pl a m τ' := by
  unfold MK at *
  rw [h 3 (by omega), h 4 (by omega), h 5 (by omega)]
  exact K
theorem TkM.fr {τ τ' : St} (K : TkM kd vl pl e τ) (h : ∀ r, r = 3 ∨ r = 4 ∨ r = 5 → τ'.2.1 r = τ.2.1 r) : TkM kd vl pl e τ' := by
  unfold TkM at *
  rw [h 3 (by omega), h 4 (by omega), h 5 (by omega)]
  exact K
end
