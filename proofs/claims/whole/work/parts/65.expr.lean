/-! PURE: an expression, step by step; the desk's check of it -/
abbrev Cd := List (Nat × Nat)
def opc (w : Nat) : Nat := if w = 8 then 2 else if w = 9 then 3 else if w = 10 then 4 else if w = 15 then 5 else 6
def outc (s : Bool) : List Nat → Cd → List Nat × Cd
  | [], c => ([], c)
  | w :: r, c => if w = 6 ∨ (s = true ∧ (w = 8 ∨ w = 9)) then (w :: r, c) else outc s r ((opc w, 0) :: c)
def unC (kd vl : Nat → Nat) (a : Nat) : Nat × Nat := if kd a = 20 then (0, vl a) else (1, kd a - 14)
def exM (kd vl : Nat → Nat) : Nat → Nat → Nat → Bool → List Nat → Cd → Nat × Nat × Cd
  | 0, a, _, _, _, c => (9, a, c)
  | n + 1, a, d, u, ws, c =>
    if u = false then
      (if kd a = 27 then (if d = 6 then (2, a, c) else if a < 400 then exM kd vl n (a + 1) (d + 1) false (6 :: ws) c else (2, a, c))
      else if 14 ≤ kd a ∧ kd a ≤ 20 then (if a < 400 then exM kd vl n (a + 1) d true ws (unC kd vl a :: c) else (2, a, c))
      else (1, a, c))
    else
      (if 22 ≤ kd a ∧ kd a ≤ 26 then (if a < 400 then exM kd vl n (a + 1) d false (mkOf (kd a) :: (outc (decide (24 ≤ kd a)) ws c).1) (outc (decide (24 ≤ kd a)) ws c).2 else (2, a, c))
      else if kd a = 28 ∧ 0 < d then (if a < 400 then exM kd vl n (a + 1) (d - 1) true (outc false ws c).1.tail (outc false ws c).2 else (2, a, c))
      else if d = 0 then (0, a, (outc false ws c).2) else (1, a, c))
section
variable {kd vl pl : Nat → Nat} {e : Nat}
/-- one step -/
theorem exM_s {n a d : Nat} {u : Bool} {ws : List Nat} {c : Cd} : exM kd vl (n + 1) a d u ws c = if u = false then
      (if kd a = 27 then (if d = 6 then (2, a, c) else if a < 400 then exM kd vl n (a + 1) (d + 1) false (6 :: ws) c else (2, a, c))
      else if 14 ≤ kd a ∧ kd a ≤ 20 then (if a < 400 then exM kd vl n (a + 1) d true ws (unC kd vl a :: c) else (2, a, c))
      else (1, a, c))
    else
      (if 22 ≤ kd a ∧ kd a ≤ 26 then (if a < 400 then exM kd vl n (a + 1) d false (mkOf (kd a) :: (outc (decide (24 ≤ kd a)) ws c).1) (outc (decide (24 ≤ kd a)) ws c).2 else (2, a, c))
      else if kd a = 28 ∧ 0 < d then (if a < 400 then exM kd vl n (a + 1) (d - 1) true (outc false ws c).1.tail (outc false ws c).2 else (2, a, c))
      else if d = 0 then (0, a, (outc false ws c).2) else (1, a, c)) := rfl
theorem exM_P (E : TkE kd vl pl e) : ∀ n a d u ws c, a ≤ e → a ≤ 400 → 401 < n + a → (exM kd vl n a d u ws c).1 ≤ 2 ∧ a ≤ (exM kd vl n a d u ws c).2.1 ∧ (exM kd vl n a d u ws c).2.1 ≤ e ∧ (exM kd vl n a d u ws c).2.1 ≤ 400 ∧ ((exM kd vl n a d u ws c).1 = 0 → (u = false → a < (exM kd vl n a d u ws c).2.1) ∧ ∀ j, a ≤ j → j < (exM kd vl n a d u ws c).2.1 → 14 ≤ kd j ∧ kd j ≤ 28 ∧ kd j ≠ 21) := by
  obtain ⟨e1, e2, e3, e4, e5, e6⟩ := E
  intro n
  induction n with
  | zero => intro a d u ws c h1 h2 h3; omega
  | succ n ih =>
    intro a d u ws c h1 h2 h3
    rw [exM_s]
    have stop : ∀ (x : Nat) (c' : Cd), 1 ≤ x → x ≤ 2 → ((x, a, c') : Nat × Nat × Cd).1 ≤ 2 ∧ a ≤ ((x, a, c') : Nat × Nat × Cd).2.1 ∧ ((x, a, c') : Nat × Nat × Cd).2.1 ≤ e ∧ ((x, a, c') : Nat × Nat × Cd).2.1 ≤ 400 ∧ (((x, a, c') : Nat × Nat × Cd).1 = 0 → (u = false → a < ((x, a, c') : Nat × Nat × Cd).2.1) ∧ ∀ j, a ≤ j → j < ((x, a, c') : Nat × Nat × Cd).2.1 → 14 ≤ kd j ∧ kd j ≤ 28 ∧ kd j ≠ 21) := fun x c' hx hx2 => ⟨hx2, Nat.le_refl _, h1, h2, fun q => by have q : x = 0 := q; omega⟩
    have goo : ∀ (d' : Nat) (u' : Bool) (ws' : List Nat) (c' : Cd), a < 400 → 14 ≤ kd a → kd a ≤ 28 → kd a ≠ 21 → (exM kd vl n (a + 1) d' u' ws' c').1 ≤ 2 ∧ a ≤ (exM kd vl n (a + 1) d' u' ws' c').2.1 ∧ (exM kd vl n (a + 1) d' u' ws' c').2.1 ≤ e ∧ (exM kd vl n (a + 1) d' u' ws' c').2.1 ≤ 400 ∧ ((exM kd vl n (a + 1) d' u' ws' c').1 = 0 → (u = false → a < (exM kd vl n (a + 1) d' u' ws' c').2.1) ∧ ∀ j, a ≤ j → j < (exM kd vl n (a + 1) d' u' ws' c').2.1 → 14 ≤ kd j ∧ kd j ≤ 28 ∧ kd j ≠ 21) := by
      intro d' u' ws' c' h4 k1 k2 k3
      have hae : a ≠ e := fun q => by rw [q] at k2; rcases e3 with z | z <;> omega
      obtain ⟨i1, i2, i3, i4, i5⟩ := ih (a + 1) d' u' ws' c' (by omega) (by omega) (by omega)
      refine ⟨i1, by omega, i3, i4, fun q => ⟨fun _ => by omega, fun j h1 h2 => ?_⟩⟩
      by_cases c : j = a
      · rw [c]; exact ⟨k1, k2, k3⟩
      · exact (i5 q).2 j (by omega) h2
    cases u
    · rw [if_pos rfl]
      by_cases k27 : kd a = 27
      · rw [if_pos k27]
        by_cases d6 : d = 6
        · rw [if_pos d6]; exact stop 2 c (by omega) (by omega)
        · rw [if_neg d6]
          by_cases a4 : a < 400
          · rw [if_pos a4]; exact goo _ _ _ _ a4 (by omega) (by omega) (by omega)
          · rw [if_neg a4]; exact stop 2 c (by omega) (by omega)
      · rw [if_neg k27]
        by_cases ku : 14 ≤ kd a ∧ kd a ≤ 20
        · rw [if_pos ku]
          by_cases a4 : a < 400
          · rw [if_pos a4]; exact goo _ _ _ _ a4 (by omega) (by omega) (by omega)
          · rw [if_neg a4]; exact stop 2 c (by omega) (by omega)
        · rw [if_neg ku]; exact stop 1 c (by omega) (by omega)
    · rw [if_neg (by decide)]
      by_cases ko : 22 ≤ kd a ∧ kd a ≤ 26
      · rw [if_pos ko]
        by_cases a4 : a < 400
        · rw [if_pos a4]; exact goo _ _ _ _ a4 (by omega) (by omega) (by omega)
        · rw [if_neg a4]; exact stop 2 c (by omega) (by omega)
      · rw [if_neg ko]
        by_cases kc : kd a = 28 ∧ 0 < d
        · rw [if_pos kc]
          by_cases a4 : a < 400
          · rw [if_pos a4]; exact goo _ _ _ _ a4 (by omega) (by omega) (by omega)
          · rw [if_neg a4]; exact stop 2 c (by omega) (by omega)
        · rw [if_neg kc]
          by_cases d0 : d = 0
          · rw [if_pos d0]
            exact ⟨by omega, Nat.le_refl _, h1, h2, fun _ => ⟨fun q => (by cases q), fun j x1 x2 => by have x2 : j < a := x2; omega⟩⟩
          · rw [if_neg d0]; exact stop 1 c (by omega) (by omega)
/-! the desk -/
theorem ss_ss {σ : St} {k : Nat} {v w : Int32} : ss (ss σ k v) k w = ss σ k w := by
  unfold ss
  congr 1
  funext j
  simp only [upd]
  by_cases h : j = k <;> simp [h]
theorem d_kindAt {F : Nat} {σ : St} (E : TkE kd vl pl e) (D : TkD kd vl pl e σ) {k : Nat} (hk : k ≤ e) : f_X6_kindAt F σ (nI k) = some (nI (kd k)) := by
  obtain ⟨e1, -⟩ := E
  obtain ⟨d1, d2⟩ := D
  have q := (d2 k hk).1
  unfold f_X6_kindAt
  simp (disch := omega) only [↓bnd_i, ↓cal_s, ↓cal_n, ↓cal2_s, ↓cal2_n, cal_s, cal2_s, ↓reduceIte, fa_lit, m1_lit, m2_lit, m1_lt, m2_lt, m1_eq, m2_eq, m1_le, m2_le, le_m1, le_m2, lt_m1, lt_m2, m12, m21, m1_m1, n_lt, n_le, n_eq, lt_t, lt_f, le_t, le_f, eq_t, eq_f, n_cl, inb_ok, n_add, pk_mul, pk_sub, n_rem, n_div, n_dec, n_mx, n_mn, eq_m1, eq_m2, ss_same, ss_ne, ss_r, ss_l, sr_f, sr_l, sr_same, sr_ne, sw_f, sw_l, sw_at, sw_ne, pk_us, pk_un, bI_t, bI_f, not_true_eq_false, not_false_eq_true, eq_self, and_true, true_and, and_false, false_and, or_true, true_or, or_false, false_or, decide_true, decide_false, Bool.false_eq_true, Bool.true_eq_false, d1, q]
theorem d_numberAt {F : Nat} {σ : St} (E : TkE kd vl pl e) (D : TkD kd vl pl e σ) {k : Nat} (hk : k < 2 ^ 31) : f_X6_numberAt F σ (nI k) = some (nI (if k ≤ e then vl k else 0)) := by
  obtain ⟨e1, -⟩ := E
  obtain ⟨d1, d2⟩ := D
  unfold f_X6_numberAt
  by_cases c : k ≤ e
  · have q := (d2 k c).2.1
    rw [if_pos c]
    simp (disch := omega) only [↓bnd_i, ↓cal_s, ↓cal_n, ↓cal2_s, ↓cal2_n, cal_s, cal2_s, ↓reduceIte, fa_lit, m1_lit, m2_lit, m1_lt, m2_lt, m1_eq, m2_eq, m1_le, m2_le, le_m1, le_m2, lt_m1, lt_m2, m12, m21, m1_m1, n_lt, n_le, n_eq, lt_t, lt_f, le_t, le_f, eq_t, eq_f, n_cl, inb_ok, n_add, pk_mul, pk_sub, n_rem, n_div, n_dec, n_mx, n_mn, eq_m1, eq_m2, ss_same, ss_ne, ss_r, ss_l, sr_f, sr_l, sr_same, sr_ne, sw_f, sw_l, sw_at, sw_ne, pk_us, pk_un, bI_t, bI_f, not_true_eq_false, not_false_eq_true, eq_self, and_true, true_and, and_false, false_and, or_true, true_or, or_false, false_or, decide_true, decide_false, Bool.false_eq_true, Bool.true_eq_false, d1, q]
  · rw [if_neg c]
    simp (disch := omega) only [↓bnd_i, ↓cal_s, ↓cal_n, ↓cal2_s, ↓cal2_n, cal_s, cal2_s, ↓reduceIte, fa_lit, m1_lit, m2_lit, m1_lt, m2_lt, m1_eq, m2_eq, m1_le, m2_le, le_m1, le_m2, lt_m1, lt_m2, m12, m21, m1_m1, n_lt, n_le, n_eq, lt_t, lt_f, le_t, le_f, eq_t, eq_f, n_cl, inb_ok, n_add, pk_mul, pk_sub, n_rem, n_div, n_dec, n_mx, n_mn, eq_m1, eq_m2, ss_same, ss_ne, ss_r, ss_l, sr_f, sr_l, sr_same, sr_ne, sw_f, sw_l, sw_at, sw_ne, pk_us, pk_un, bI_t, bI_f, not_true_eq_false, not_false_eq_true, eq_self, and_true, true_and, and_false, false_and, or_true, true_or, or_false, false_or, decide_true, decide_false, Bool.false_eq_true, Bool.true_eq_false, d1]
theorem d_fail {F : Nat} {σ : St} (E : TkE kd vl pl e) (D : TkD kd vl pl e σ) (x : Nat) {k : Nat} (hk : k ≤ e) : f_X1_fail F σ (nI x) (nI k) = some (nI 0, ss (ss σ 21 (nI x)) 22 (nI (pl k))) := by
  obtain ⟨e1, -⟩ := E
  obtain ⟨d1, d2⟩ := D
  have q := (d2 k hk).2.2
  unfold f_X1_fail f_X6_placeAt
  simp (disch := omega) only [↓bnd_i, ↓cal_s, ↓cal_n, ↓cal2_s, ↓cal2_n, cal_s, cal2_s, ↓reduceIte, fa_lit, m1_lit, m2_lit, m1_lt, m2_lt, m1_eq, m2_eq, m1_le, m2_le, le_m1, le_m2, lt_m1, lt_m2, m12, m21, m1_m1, n_lt, n_le, n_eq, lt_t, lt_f, le_t, le_f, eq_t, eq_f, n_cl, inb_ok, n_add, pk_mul, pk_sub, n_rem, n_div, n_dec, n_mx, n_mn, eq_m1, eq_m2, ss_same, ss_ne, ss_r, ss_l, sr_f, sr_l, sr_same, sr_ne, sw_f, sw_l, sw_at, sw_ne, pk_us, pk_un, bI_t, bI_f, not_true_eq_false, not_false_eq_true, eq_self, and_true, true_and, and_false, false_and, or_true, true_or, or_false, false_or, decide_true, decide_false, Bool.false_eq_true, Bool.true_eq_false, d1, q]
/-- what grammar leaves as it is -/
def FrG (σ σ' : St) : Prop := (∀ k, k < 20 ∨ 25 < k → σ'.1 k = σ.1 k) ∧ σ'.2 = σ.2
theorem FrG.refl (σ : St) : FrG σ σ := ⟨fun _ _ => rfl, rfl⟩
theorem FrG.trans {a b c : St} (h : FrG a b) (k : FrG b c) : FrG a c := ⟨fun i hi => (k.1 i hi).trans (h.1 i hi), k.2.trans h.2⟩
theorem FrG.ss {σ σ' : St} {k : Nat} {v : Int32} (h : FrG σ σ') (h4 : 20 ≤ k) (h18 : k ≤ 25) : FrG σ (ss σ' k v) := ⟨fun i hi => (ss_ne (by omega)).trans (h.1 i hi), h.2⟩
theorem TkD.fr {σ σ' : St} (D : TkD kd vl pl e σ) (f : FrG σ σ') : TkD kd vl pl e σ' := ⟨by rw [f.1 19 (by omega)]; exact D.1, by rw [f.2]; exact D.2⟩
theorem d_goOver {F : Nat} {σ : St} (E : TkE kd vl pl e) (D : TkD kd vl pl e σ) {a : Nat} (ha : a ≤ e) (h20 : σ.1 20 = nI a) : f_X1_goOver F σ = if a < 400 then some (nI 1, ss σ 20 (nI (a + 1))) else some (nI 0, ss (ss σ 21 (nI 2)) 22 (nI (pl a))) := by
  have e1 := E.1
  have f := d_fail (F := F) E D 2 ha
  unfold f_X1_goOver
  by_cases c : a < 400
  · rw [if_pos c]
    simp (disch := omega) only [↓bnd_i, ↓cal_s, ↓cal_n, ↓cal2_s, ↓cal2_n, cal_s, cal2_s, ↓reduceIte, fa_lit, m1_lit, m2_lit, m1_lt, m2_lt, m1_eq, m2_eq, m1_le, m2_le, le_m1, le_m2, lt_m1, lt_m2, m12, m21, m1_m1, n_lt, n_le, n_eq, lt_t, lt_f, le_t, le_f, eq_t, eq_f, n_cl, inb_ok, n_add, pk_mul, pk_sub, n_rem, n_div, n_dec, n_mx, n_mn, eq_m1, eq_m2, ss_same, ss_ne, ss_r, ss_l, sr_f, sr_l, sr_same, sr_ne, sw_f, sw_l, sw_at, sw_ne, pk_us, pk_un, bI_t, bI_f, not_true_eq_false, not_false_eq_true, eq_self, and_true, true_and, and_false, false_and, or_true, true_or, or_false, false_or, decide_true, decide_false, Bool.false_eq_true, Bool.true_eq_false, h20]
  · rw [if_neg c]
    simp (disch := omega) only [↓bnd_i, ↓cal_s, ↓cal_n, ↓cal2_s, ↓cal2_n, cal_s, cal2_s, ↓reduceIte, fa_lit, m1_lit, m2_lit, m1_lt, m2_lt, m1_eq, m2_eq, m1_le, m2_le, le_m1, le_m2, lt_m1, lt_m2, m12, m21, m1_m1, n_lt, n_le, n_eq, lt_t, lt_f, le_t, le_f, eq_t, eq_f, n_cl, inb_ok, n_add, pk_mul, pk_sub, n_rem, n_div, n_dec, n_mx, n_mn, eq_m1, eq_m2, ss_same, ss_ne, ss_r, ss_l, sr_f, sr_l, sr_same, sr_ne, sw_f, sw_l, sw_at, sw_ne, pk_us, pk_un, bI_t, bI_f, not_true_eq_false, not_false_eq_true, eq_self, and_true, true_and, and_false, false_and, or_true, true_or, or_false, false_or, decide_true, decide_false, Bool.false_eq_true, Bool.true_eq_false, ↓cal2_w (f), f, h20]
/-- the fault that the desk tells -/
def dFl (pl : Nat → Nat) (x k : Nat) (σ σ' : St) : Prop := σ'.1 21 = nI x ∧ σ'.1 22 = nI (pl k) ∧ FrG σ σ'
theorem dFl_mk {σ : St} {x k : Nat} : dFl pl x k σ (ss (ss σ 21 (nI x)) 22 (nI (pl k))) := ⟨by rw [ss_ne (by omega), ss_same], ss_same, ((FrG.refl σ).ss (by omega) (by omega)).ss (by omega) (by omega)⟩
theorem d_cEx {F : Nat} (E : TkE kd vl pl e) : ∀ (n a d : Nat) (u : Bool) (s : Nat) (ws : List Nat) (c : Cd) (σ : St), TkD kd vl pl e σ → σ.1 20 = nI a → a ≤ e → a ≤ 400 → s ≤ a → d ≤ 6 → 401 < n + a → ∃ σ', f_X1_checkExpression_6 F n σ (nI d) (bI u) (nI s) = some (bI (decide ((exM kd vl n a d u ws c).1 = 0)), σ') ∧ ((exM kd vl n a d u ws c).1 = 0 → σ' = ss σ 20 (nI (exM kd vl n a d u ws c).2.1)) ∧ ((exM kd vl n a d u ws c).1 ≠ 0 → dFl pl (exM kd vl n a d u ws c).1 (exM kd vl n a d u ws c).2.1 σ σ') := by
  have E' := E
  obtain ⟨e1, e2, e3, e4, e5, e6⟩ := E'
  intro n
  induction n with
  | zero => intro a d u s ws c σ _ _ h1 h2 _ _ h3; omega
  | succ n ih =>
    intro a d u s ws c σ D h20 h1 h2 hs hd h3
    have wk := d_kindAt (F := F) E D h1
    have kle : kd a ≤ 30 := by
      by_cases q : a = e
      · rw [q]; rcases e3 with z | z <;> omega
      · have := e2 a (by omega); omega
    have f1 := d_fail (F := F) E D 1 h1
    have f2 := d_fail (F := F) E D 2 h1
    have gov := d_goOver (F := F) E D h1 h20
    rw [exM_s, f_X1_checkExpression_6]
    have goo : ∀ (d' : Nat) (u' : Bool) (ws' : List Nat) (c' : Cd), a < 400 → kd a ≤ 28 → d' ≤ 6 → ∃ σ', f_X1_checkExpression_143 F (f_X1_checkExpression_6 F n) σ (nI d') (bI u') (nI s) = some (bI (decide ((exM kd vl n (a + 1) d' u' ws' c').1 = 0)), σ') ∧ ((exM kd vl n (a + 1) d' u' ws' c').1 = 0 → σ' = ss σ 20 (nI (exM kd vl n (a + 1) d' u' ws' c').2.1)) ∧ ((exM kd vl n (a + 1) d' u' ws' c').1 ≠ 0 → dFl pl (exM kd vl n (a + 1) d' u' ws' c').1 (exM kd vl n (a + 1) d' u' ws' c').2.1 σ σ') := by
      intro d' u' ws' c' h4 k2 hd'
      have hae : a ≠ e := fun q => by rw [q] at k2; rcases e3 with z | z <;> omega
      have fr : FrG σ (ss σ 20 (nI (a + 1))) := (FrG.refl σ).ss (by omega) (by omega)
      obtain ⟨σ', g1, g2, g3⟩ := ih (a + 1) d' u' (s + 1) ws' c' (ss σ 20 (nI (a + 1))) (D.fr fr) ss_same (by omega) (by omega) (by omega) hd' (by omega)
      rw [if_pos h4] at gov
      refine ⟨σ', ?_, fun q => by rw [g2 q, ss_ss], fun q => ⟨(g3 q).1, (g3 q).2.1, fr.trans (g3 q).2.2⟩⟩
      unfold f_X1_checkExpression_143
      simp (disch := omega) only [↓bnd_i, ↓cal_s, ↓cal_n, ↓cal2_s, ↓cal2_n, cal_s, cal2_s, ↓reduceIte, fa_lit, m1_lit, m2_lit, m1_lt, m2_lt, m1_eq, m2_eq, m1_le, m2_le, le_m1, le_m2, lt_m1, lt_m2, m12, m21, m1_m1, n_lt, n_le, n_eq, lt_t, lt_f, le_t, le_f, eq_t, eq_f, n_cl, inb_ok, n_add, pk_mul, pk_sub, n_rem, n_div, n_dec, n_mx, n_mn, eq_m1, eq_m2, ss_same, ss_ne, ss_r, ss_l, sr_f, sr_l, sr_same, sr_ne, sw_f, sw_l, sw_at, sw_ne, pk_us, pk_un, bI_t, bI_f, not_true_eq_false, not_false_eq_true, eq_self, and_true, true_and, and_false, false_and, or_true, true_or, or_false, false_or, decide_true, decide_false, Bool.false_eq_true, Bool.true_eq_false, ↓cal2_w (gov), gov]
      exact g1
    have gon : ∀ (d' : Nat) (u' : Bool), ¬ a < 400 → f_X1_checkExpression_143 F (f_X1_checkExpression_6 F n) σ (nI d') (bI u') (nI s) = some (nI 0, ss (ss σ 21 (nI 2)) 22 (nI (pl a))) := by
      intro d' u' h4
      rw [if_neg h4] at gov
      unfold f_X1_checkExpression_143
      simp (disch := omega) only [↓bnd_i, ↓cal_s, ↓cal_n, ↓cal2_s, ↓cal2_n, cal_s, cal2_s, ↓reduceIte, fa_lit, m1_lit, m2_lit, m1_lt, m2_lt, m1_eq, m2_eq, m1_le, m2_le, le_m1, le_m2, lt_m1, lt_m2, m12, m21, m1_m1, n_lt, n_le, n_eq, lt_t, lt_f, le_t, le_f, eq_t, eq_f, n_cl, inb_ok, n_add, pk_mul, pk_sub, n_rem, n_div, n_dec, n_mx, n_mn, eq_m1, eq_m2, ss_same, ss_ne, ss_r, ss_l, sr_f, sr_l, sr_same, sr_ne, sw_f, sw_l, sw_at, sw_ne, pk_us, pk_un, bI_t, bI_f, not_true_eq_false, not_false_eq_true, eq_self, and_true, true_and, and_false, false_and, or_true, true_or, or_false, false_or, decide_true, decide_false, Bool.false_eq_true, Bool.true_eq_false, ↓cal2_w (gov), gov]
    have no : ∀ {x : Nat}, x ≠ 0 → bI (decide (x = 0)) = nI 0 := fun h => by rw [decide_eq_false h]; rfl
    cases u
    · simp only [if_true]
      by_cases k27 : kd a = 27
      · simp only [k27, if_true]
        rw [k27] at wk
        by_cases d6 : d = 6
        · simp only [d6, if_true]
          refine ⟨_, ?_, fun q => (by cases q), fun _ => dFl_mk⟩
          rw [no (by omega), ← d6]
          simp (disch := omega) only [↓bnd_i, ↓cal_s, ↓cal_n, ↓cal2_s, ↓cal2_n, cal_s, cal2_s, ↓reduceIte, fa_lit, m1_lit, m2_lit, m1_lt, m2_lt, m1_eq, m2_eq, m1_le, m2_le, le_m1, le_m2, lt_m1, lt_m2, m12, m21, m1_m1, n_lt, n_le, n_eq, lt_t, lt_f, le_t, le_f, eq_t, eq_f, n_cl, inb_ok, n_add, pk_mul, pk_sub, n_rem, n_div, n_dec, n_mx, n_mn, eq_m1, eq_m2, ss_same, ss_ne, ss_r, ss_l, sr_f, sr_l, sr_same, sr_ne, sw_f, sw_l, sw_at, sw_ne, pk_us, pk_un, bI_t, bI_f, not_true_eq_false, not_false_eq_true, eq_self, and_true, true_and, and_false, false_and, or_true, true_or, or_false, false_or, decide_true, decide_false, Bool.false_eq_true, Bool.true_eq_false, ↓cal_w (wk), wk, ↓cal2_w (f2), f2, h20]
        · simp only [d6, if_false]
          by_cases a4 : a < 400
          · simp only [a4, if_true]
            obtain ⟨σ', g1, g2, g3⟩ := goo (d + 1) false (6 :: ws) c a4 (by omega) (by omega)
            refine ⟨σ', ?_, g2, g3⟩
            have g1' : f_X1_checkExpression_143 F (f_X1_checkExpression_6 F n) σ (nI (d + 1)) (nI 0) (nI s) = _ := g1
            simp (disch := omega) only [↓bnd_i, ↓cal_s, ↓cal_n, ↓cal2_s, ↓cal2_n, cal_s, cal2_s, ↓reduceIte, fa_lit, m1_lit, m2_lit, m1_lt, m2_lt, m1_eq, m2_eq, m1_le, m2_le, le_m1, le_m2, lt_m1, lt_m2, m12, m21, m1_m1, n_lt, n_le, n_eq, lt_t, lt_f, le_t, le_f, eq_t, eq_f, n_cl, inb_ok, n_add, pk_mul, pk_sub, n_rem, n_div, n_dec, n_mx, n_mn, eq_m1, eq_m2, ss_same, ss_ne, ss_r, ss_l, sr_f, sr_l, sr_same, sr_ne, sw_f, sw_l, sw_at, sw_ne, pk_us, pk_un, bI_t, bI_f, not_true_eq_false, not_false_eq_true, eq_self, and_true, true_and, and_false, false_and, or_true, true_or, or_false, false_or, decide_true, decide_false, Bool.false_eq_true, Bool.true_eq_false, ↓cal_w (wk), wk, h20]
            exact g1'
          · simp only [a4, if_false]
            refine ⟨_, ?_, fun q => (by cases q), fun _ => dFl_mk⟩
            rw [no (by omega)]
            have g1' : f_X1_checkExpression_143 F (f_X1_checkExpression_6 F n) σ (nI (d + 1)) (nI 0) (nI s) = _ := gon (d + 1) false a4
            simp (disch := omega) only [↓bnd_i, ↓cal_s, ↓cal_n, ↓cal2_s, ↓cal2_n, cal_s, cal2_s, ↓reduceIte, fa_lit, m1_lit, m2_lit, m1_lt, m2_lt, m1_eq, m2_eq, m1_le, m2_le, le_m1, le_m2, lt_m1, lt_m2, m12, m21, m1_m1, n_lt, n_le, n_eq, lt_t, lt_f, le_t, le_f, eq_t, eq_f, n_cl, inb_ok, n_add, pk_mul, pk_sub, n_rem, n_div, n_dec, n_mx, n_mn, eq_m1, eq_m2, ss_same, ss_ne, ss_r, ss_l, sr_f, sr_l, sr_same, sr_ne, sw_f, sw_l, sw_at, sw_ne, pk_us, pk_un, bI_t, bI_f, not_true_eq_false, not_false_eq_true, eq_self, and_true, true_and, and_false, false_and, or_true, true_or, or_false, false_or, decide_true, decide_false, Bool.false_eq_true, Bool.true_eq_false, ↓cal_w (wk), wk, h20]
            exact g1'
      · simp only [k27, if_false]
        by_cases ku : 14 ≤ kd a ∧ kd a ≤ 20
        · simp only [ku, and_self, if_true]
          by_cases a4 : a < 400
          · simp only [a4, if_true]
            obtain ⟨σ', g1, g2, g3⟩ := goo d true ws (unC kd vl a :: c) a4 (by omega) hd
            refine ⟨σ', ?_, g2, g3⟩
            have g1' : f_X1_checkExpression_143 F (f_X1_checkExpression_6 F n) σ (nI d) (nI 1) (nI s) = _ := g1
            simp (disch := omega) only [↓bnd_i, ↓cal_s, ↓cal_n, ↓cal2_s, ↓cal2_n, cal_s, cal2_s, ↓reduceIte, fa_lit, m1_lit, m2_lit, m1_lt, m2_lt, m1_eq, m2_eq, m1_le, m2_le, le_m1, le_m2, lt_m1, lt_m2, m12, m21, m1_m1, n_lt, n_le, n_eq, lt_t, lt_f, le_t, le_f, eq_t, eq_f, n_cl, inb_ok, n_add, pk_mul, pk_sub, n_rem, n_div, n_dec, n_mx, n_mn, eq_m1, eq_m2, ss_same, ss_ne, ss_r, ss_l, sr_f, sr_l, sr_same, sr_ne, sw_f, sw_l, sw_at, sw_ne, pk_us, pk_un, bI_t, bI_f, not_true_eq_false, not_false_eq_true, eq_self, and_true, true_and, and_false, false_and, or_true, true_or, or_false, false_or, decide_true, decide_false, Bool.false_eq_true, Bool.true_eq_false, ↓cal_w (wk), wk, h20, f_X1_checkExpression_56]
            exact g1'
          · simp only [a4, if_false]
            refine ⟨_, ?_, fun q => (by cases q), fun _ => dFl_mk⟩
            rw [no (by omega)]
            have g1' : f_X1_checkExpression_143 F (f_X1_checkExpression_6 F n) σ (nI d) (nI 1) (nI s) = _ := gon d true a4
            simp (disch := omega) only [↓bnd_i, ↓cal_s, ↓cal_n, ↓cal2_s, ↓cal2_n, cal_s, cal2_s, ↓reduceIte, fa_lit, m1_lit, m2_lit, m1_lt, m2_lt, m1_eq, m2_eq, m1_le, m2_le, le_m1, le_m2, lt_m1, lt_m2, m12, m21, m1_m1, n_lt, n_le, n_eq, lt_t, lt_f, le_t, le_f, eq_t, eq_f, n_cl, inb_ok, n_add, pk_mul, pk_sub, n_rem, n_div, n_dec, n_mx, n_mn, eq_m1, eq_m2, ss_same, ss_ne, ss_r, ss_l, sr_f, sr_l, sr_same, sr_ne, sw_f, sw_l, sw_at, sw_ne, pk_us, pk_un, bI_t, bI_f, not_true_eq_false, not_false_eq_true, eq_self, and_true, true_and, and_false, false_and, or_true, true_or, or_false, false_or, decide_true, decide_false, Bool.false_eq_true, Bool.true_eq_false, ↓cal_w (wk), wk, h20, f_X1_checkExpression_56]
            exact g1'
        · simp only [ku, if_false]
          refine ⟨_, ?_, fun q => (by cases q), fun _ => dFl_mk⟩
          rw [no (by omega)]
          by_cases k14 : kd a < 14
          · simp (disch := omega) only [↓bnd_i, ↓cal_s, ↓cal_n, ↓cal2_s, ↓cal2_n, cal_s, cal2_s, ↓reduceIte, fa_lit, m1_lit, m2_lit, m1_lt, m2_lt, m1_eq, m2_eq, m1_le, m2_le, le_m1, le_m2, lt_m1, lt_m2, m12, m21, m1_m1, n_lt, n_le, n_eq, lt_t, lt_f, le_t, le_f, eq_t, eq_f, n_cl, inb_ok, n_add, pk_mul, pk_sub, n_rem, n_div, n_dec, n_mx, n_mn, eq_m1, eq_m2, ss_same, ss_ne, ss_r, ss_l, sr_f, sr_l, sr_same, sr_ne, sw_f, sw_l, sw_at, sw_ne, pk_us, pk_un, bI_t, bI_f, not_true_eq_false, not_false_eq_true, eq_self, and_true, true_and, and_false, false_and, or_true, true_or, or_false, false_or, decide_true, decide_false, Bool.false_eq_true, Bool.true_eq_false, ↓cal_w (wk), wk, ↓cal2_w (f1), f1, h20, f_X1_checkExpression_56, f_X1_checkExpression_79, f_X1_checkExpression_102, f_X1_checkExpression_123]
          · simp (disch := omega) only [↓bnd_i, ↓cal_s, ↓cal_n, ↓cal2_s, ↓cal2_n, cal_s, cal2_s, ↓reduceIte, fa_lit, m1_lit, m2_lit, m1_lt, m2_lt, m1_eq, m2_eq, m1_le, m2_le, le_m1, le_m2, lt_m1, lt_m2, m12, m21, m1_m1, n_lt, n_le, n_eq, lt_t, lt_f, le_t, le_f, eq_t, eq_f, n_cl, inb_ok, n_add, pk_mul, pk_sub, n_rem, n_div, n_dec, n_mx, n_mn, eq_m1, eq_m2, ss_same, ss_ne, ss_r, ss_l, sr_f, sr_l, sr_same, sr_ne, sw_f, sw_l, sw_at, sw_ne, pk_us, pk_un, bI_t, bI_f, not_true_eq_false, not_false_eq_true, eq_self, and_true, true_and, and_false, false_and, or_true, true_or, or_false, false_or, decide_true, decide_false, Bool.false_eq_true, Bool.true_eq_false, ↓cal_w (wk), wk, ↓cal2_w (f1), f1, h20, f_X1_checkExpression_56, f_X1_checkExpression_79, f_X1_checkExpression_102, f_X1_checkExpression_123]
    · simp only [Bool.true_eq_false, if_false]
      by_cases ko : 22 ≤ kd a ∧ kd a ≤ 26
      · simp only [ko, and_self, if_true]
        by_cases a4 : a < 400
        · simp only [a4, if_true]
          obtain ⟨σ', g1, g2, g3⟩ := goo d false (mkOf (kd a) :: (outc (decide (24 ≤ kd a)) ws c).1) (outc (decide (24 ≤ kd a)) ws c).2 a4 (by omega) hd
          refine ⟨σ', ?_, g2, g3⟩
          have g1' : f_X1_checkExpression_143 F (f_X1_checkExpression_6 F n) σ (nI d) (nI 0) (nI s) = _ := g1
          simp (disch := omega) only [↓bnd_i, ↓cal_s, ↓cal_n, ↓cal2_s, ↓cal2_n, cal_s, cal2_s, ↓reduceIte, fa_lit, m1_lit, m2_lit, m1_lt, m2_lt, m1_eq, m2_eq, m1_le, m2_le, le_m1, le_m2, lt_m1, lt_m2, m12, m21, m1_m1, n_lt, n_le, n_eq, lt_t, lt_f, le_t, le_f, eq_t, eq_f, n_cl, inb_ok, n_add, pk_mul, pk_sub, n_rem, n_div, n_dec, n_mx, n_mn, eq_m1, eq_m2, ss_same, ss_ne, ss_r, ss_l, sr_f, sr_l, sr_same, sr_ne, sw_f, sw_l, sw_at, sw_ne, pk_us, pk_un, bI_t, bI_f, not_true_eq_false, not_false_eq_true, eq_self, and_true, true_and, and_false, false_and, or_true, true_or, or_false, false_or, decide_true, decide_false, Bool.false_eq_true, Bool.true_eq_false, ↓cal_w (wk), wk, h20, f_X1_checkExpression_56, f_X1_checkExpression_79]
          exact g1'
        · simp only [a4, if_false]
          refine ⟨_, ?_, fun q => (by cases q), fun _ => dFl_mk⟩
          rw [no (by omega)]
          have g1' : f_X1_checkExpression_143 F (f_X1_checkExpression_6 F n) σ (nI d) (nI 0) (nI s) = _ := gon d false a4
          simp (disch := omega) only [↓bnd_i, ↓cal_s, ↓cal_n, ↓cal2_s, ↓cal2_n, cal_s, cal2_s, ↓reduceIte, fa_lit, m1_lit, m2_lit, m1_lt, m2_lt, m1_eq, m2_eq, m1_le, m2_le, le_m1, le_m2, lt_m1, lt_m2, m12, m21, m1_m1, n_lt, n_le, n_eq, lt_t, lt_f, le_t, le_f, eq_t, eq_f, n_cl, inb_ok, n_add, pk_mul, pk_sub, n_rem, n_div, n_dec, n_mx, n_mn, eq_m1, eq_m2, ss_same, ss_ne, ss_r, ss_l, sr_f, sr_l, sr_same, sr_ne, sw_f, sw_l, sw_at, sw_ne, pk_us, pk_un, bI_t, bI_f, not_true_eq_false, not_false_eq_true, eq_self, and_true, true_and, and_false, false_and, or_true, true_or, or_false, false_or, decide_true, decide_false, Bool.false_eq_true, Bool.true_eq_false, ↓cal_w (wk), wk, h20, f_X1_checkExpression_56, f_X1_checkExpression_79]
          exact g1'
      · simp only [ko, if_false]
        by_cases kc : kd a = 28 ∧ 0 < d
        · simp only [kc, and_self, if_true]
          obtain ⟨kc1, kc2⟩ := kc
          rw [kc1] at wk
          by_cases a4 : a < 400
          · simp only [a4, if_true]
            obtain ⟨σ', g1, g2, g3⟩ := goo (d - 1) true (outc false ws c).1.tail (outc false ws c).2 a4 (by omega) (by omega)
            refine ⟨σ', ?_, g2, g3⟩
            have g1' : f_X1_checkExpression_143 F (f_X1_checkExpression_6 F n) σ (nI (d - 1)) (nI 1) (nI s) = _ := g1
            simp (disch := omega) only [↓bnd_i, ↓cal_s, ↓cal_n, ↓cal2_s, ↓cal2_n, cal_s, cal2_s, ↓reduceIte, fa_lit, m1_lit, m2_lit, m1_lt, m2_lt, m1_eq, m2_eq, m1_le, m2_le, le_m1, le_m2, lt_m1, lt_m2, m12, m21, m1_m1, n_lt, n_le, n_eq, lt_t, lt_f, le_t, le_f, eq_t, eq_f, n_cl, inb_ok, n_add, pk_mul, pk_sub, n_rem, n_div, n_dec, n_mx, n_mn, eq_m1, eq_m2, ss_same, ss_ne, ss_r, ss_l, sr_f, sr_l, sr_same, sr_ne, sw_f, sw_l, sw_at, sw_ne, pk_us, pk_un, bI_t, bI_f, not_true_eq_false, not_false_eq_true, eq_self, and_true, true_and, and_false, false_and, or_true, true_or, or_false, false_or, decide_true, decide_false, Bool.false_eq_true, Bool.true_eq_false, ↓cal_w (wk), wk, h20, f_X1_checkExpression_56, f_X1_checkExpression_79, f_X1_checkExpression_102]
            exact g1'
          · simp only [a4, if_false]
            refine ⟨_, ?_, fun q => (by cases q), fun _ => dFl_mk⟩
            rw [no (by omega)]
            have g1' : f_X1_checkExpression_143 F (f_X1_checkExpression_6 F n) σ (nI (d - 1)) (nI 1) (nI s) = _ := gon (d - 1) true a4
            simp (disch := omega) only [↓bnd_i, ↓cal_s, ↓cal_n, ↓cal2_s, ↓cal2_n, cal_s, cal2_s, ↓reduceIte, fa_lit, m1_lit, m2_lit, m1_lt, m2_lt, m1_eq, m2_eq, m1_le, m2_le, le_m1, le_m2, lt_m1, lt_m2, m12, m21, m1_m1, n_lt, n_le, n_eq, lt_t, lt_f, le_t, le_f, eq_t, eq_f, n_cl, inb_ok, n_add, pk_mul, pk_sub, n_rem, n_div, n_dec, n_mx, n_mn, eq_m1, eq_m2, ss_same, ss_ne, ss_r, ss_l, sr_f, sr_l, sr_same, sr_ne, sw_f, sw_l, sw_at, sw_ne, pk_us, pk_un, bI_t, bI_f, not_true_eq_false, not_false_eq_true, eq_self, and_true, true_and, and_false, false_and, or_true, true_or, or_false, false_or, decide_true, decide_false, Bool.false_eq_true, Bool.true_eq_false, ↓cal_w (wk), wk, h20, f_X1_checkExpression_56, f_X1_checkExpression_79, f_X1_checkExpression_102]
            exact g1'
        · simp only [kc, if_false]
          have into : ∀ (X : Int32 × St), f_X1_checkExpression_123 F σ (nI d) (nI 1) = some X → f_X1_checkExpression_56 F (f_X1_checkExpression_6 F n) σ (nI d) (nI 1) (nI s) (nI (kd a)) = some X := by
            intro X hX
            have h102 : f_X1_checkExpression_102 F (f_X1_checkExpression_6 F n) σ (nI d) (nI 1) (nI s) (nI (kd a)) = some X := by
              unfold f_X1_checkExpression_102
              by_cases k28 : kd a = 28
              · have d0 : d = 0 := by omega
                rw [k28]
                simp (disch := omega) only [↓bnd_i, ↓cal_s, ↓cal_n, ↓cal2_s, ↓cal2_n, cal_s, cal2_s, ↓reduceIte, fa_lit, m1_lit, m2_lit, m1_lt, m2_lt, m1_eq, m2_eq, m1_le, m2_le, le_m1, le_m2, lt_m1, lt_m2, m12, m21, m1_m1, n_lt, n_le, n_eq, lt_t, lt_f, le_t, le_f, eq_t, eq_f, n_cl, inb_ok, n_add, pk_mul, pk_sub, n_rem, n_div, n_dec, n_mx, n_mn, eq_m1, eq_m2, ss_same, ss_ne, ss_r, ss_l, sr_f, sr_l, sr_same, sr_ne, sw_f, sw_l, sw_at, sw_ne, pk_us, pk_un, bI_t, bI_f, not_true_eq_false, not_false_eq_true, eq_self, and_true, true_and, and_false, false_and, or_true, true_or, or_false, false_or, decide_true, decide_false, Bool.false_eq_true, Bool.true_eq_false]
                exact hX
              · simp (disch := omega) only [↓bnd_i, ↓cal_s, ↓cal_n, ↓cal2_s, ↓cal2_n, cal_s, cal2_s, ↓reduceIte, fa_lit, m1_lit, m2_lit, m1_lt, m2_lt, m1_eq, m2_eq, m1_le, m2_le, le_m1, le_m2, lt_m1, lt_m2, m12, m21, m1_m1, n_lt, n_le, n_eq, lt_t, lt_f, le_t, le_f, eq_t, eq_f, n_cl, inb_ok, n_add, pk_mul, pk_sub, n_rem, n_div, n_dec, n_mx, n_mn, eq_m1, eq_m2, ss_same, ss_ne, ss_r, ss_l, sr_f, sr_l, sr_same, sr_ne, sw_f, sw_l, sw_at, sw_ne, pk_us, pk_un, bI_t, bI_f, not_true_eq_false, not_false_eq_true, eq_self, and_true, true_and, and_false, false_and, or_true, true_or, or_false, false_or, decide_true, decide_false, Bool.false_eq_true, Bool.true_eq_false]
                exact hX
            unfold f_X1_checkExpression_56 f_X1_checkExpression_79
            by_cases k22 : kd a < 22
            · simp (disch := omega) only [↓bnd_i, ↓cal_s, ↓cal_n, ↓cal2_s, ↓cal2_n, cal_s, cal2_s, ↓reduceIte, fa_lit, m1_lit, m2_lit, m1_lt, m2_lt, m1_eq, m2_eq, m1_le, m2_le, le_m1, le_m2, lt_m1, lt_m2, m12, m21, m1_m1, n_lt, n_le, n_eq, lt_t, lt_f, le_t, le_f, eq_t, eq_f, n_cl, inb_ok, n_add, pk_mul, pk_sub, n_rem, n_div, n_dec, n_mx, n_mn, eq_m1, eq_m2, ss_same, ss_ne, ss_r, ss_l, sr_f, sr_l, sr_same, sr_ne, sw_f, sw_l, sw_at, sw_ne, pk_us, pk_un, bI_t, bI_f, not_true_eq_false, not_false_eq_true, eq_self, and_true, true_and, and_false, false_and, or_true, true_or, or_false, false_or, decide_true, decide_false, Bool.false_eq_true, Bool.true_eq_false]
              exact h102
            · simp (disch := omega) only [↓bnd_i, ↓cal_s, ↓cal_n, ↓cal2_s, ↓cal2_n, cal_s, cal2_s, ↓reduceIte, fa_lit, m1_lit, m2_lit, m1_lt, m2_lt, m1_eq, m2_eq, m1_le, m2_le, le_m1, le_m2, lt_m1, lt_m2, m12, m21, m1_m1, n_lt, n_le, n_eq, lt_t, lt_f, le_t, le_f, eq_t, eq_f, n_cl, inb_ok, n_add, pk_mul, pk_sub, n_rem, n_div, n_dec, n_mx, n_mn, eq_m1, eq_m2, ss_same, ss_ne, ss_r, ss_l, sr_f, sr_l, sr_same, sr_ne, sw_f, sw_l, sw_at, sw_ne, pk_us, pk_un, bI_t, bI_f, not_true_eq_false, not_false_eq_true, eq_self, and_true, true_and, and_false, false_and, or_true, true_or, or_false, false_or, decide_true, decide_false, Bool.false_eq_true, Bool.true_eq_false]
              exact h102
          by_cases d0 : d = 0
          · simp only [d0, if_true]
            refine ⟨ss σ 20 (nI a), ?_, fun _ => rfl, fun q => absurd rfl q⟩
            have : ss σ 20 (nI a) = σ := by
              unfold ss
              rw [← h20]
              have : upd σ.1 20 (σ.1 20) = σ.1 := by
                funext j
                simp only [upd]
                by_cases q : j = 20 <;> simp [q]
              rw [this]
            rw [this]
            have q := into (nI 1, σ) (by unfold f_X1_checkExpression_123; rw [d0]; simp (disch := omega) only [↓bnd_i, ↓cal_s, ↓cal_n, ↓cal2_s, ↓cal2_n, cal_s, cal2_s, ↓reduceIte, fa_lit, m1_lit, m2_lit, m1_lt, m2_lt, m1_eq, m2_eq, m1_le, m2_le, le_m1, le_m2, lt_m1, lt_m2, m12, m21, m1_m1, n_lt, n_le, n_eq, lt_t, lt_f, le_t, le_f, eq_t, eq_f, n_cl, inb_ok, n_add, pk_mul, pk_sub, n_rem, n_div, n_dec, n_mx, n_mn, eq_m1, eq_m2, ss_same, ss_ne, ss_r, ss_l, sr_f, sr_l, sr_same, sr_ne, sw_f, sw_l, sw_at, sw_ne, pk_us, pk_un, bI_t, bI_f, not_true_eq_false, not_false_eq_true, eq_self, and_true, true_and, and_false, false_and, or_true, true_or, or_false, false_or, decide_true, decide_false, Bool.false_eq_true, Bool.true_eq_false])
            rw [d0] at q
            simp (disch := omega) only [↓bnd_i, ↓cal_s, ↓cal_n, ↓cal2_s, ↓cal2_n, cal_s, cal2_s, ↓reduceIte, fa_lit, m1_lit, m2_lit, m1_lt, m2_lt, m1_eq, m2_eq, m1_le, m2_le, le_m1, le_m2, lt_m1, lt_m2, m12, m21, m1_m1, n_lt, n_le, n_eq, lt_t, lt_f, le_t, le_f, eq_t, eq_f, n_cl, inb_ok, n_add, pk_mul, pk_sub, n_rem, n_div, n_dec, n_mx, n_mn, eq_m1, eq_m2, ss_same, ss_ne, ss_r, ss_l, sr_f, sr_l, sr_same, sr_ne, sw_f, sw_l, sw_at, sw_ne, pk_us, pk_un, bI_t, bI_f, not_true_eq_false, not_false_eq_true, eq_self, and_true, true_and, and_false, false_and, or_true, true_or, or_false, false_or, decide_true, decide_false, Bool.false_eq_true, Bool.true_eq_false, ↓cal_w (wk), wk, h20]
            exact q
          · simp only [d0, if_false]
            refine ⟨_, ?_, fun q => (by cases q), fun _ => dFl_mk⟩
            rw [no (by omega)]
            have q := into (nI 0, ss (ss σ 21 (nI 1)) 22 (nI (pl a))) (by unfold f_X1_checkExpression_123; simp (disch := omega) only [↓bnd_i, ↓cal_s, ↓cal_n, ↓cal2_s, ↓cal2_n, cal_s, cal2_s, ↓reduceIte, fa_lit, m1_lit, m2_lit, m1_lt, m2_lt, m1_eq, m2_eq, m1_le, m2_le, le_m1, le_m2, lt_m1, lt_m2, m12, m21, m1_m1, n_lt, n_le, n_eq, lt_t, lt_f, le_t, le_f, eq_t, eq_f, n_cl, inb_ok, n_add, pk_mul, pk_sub, n_rem, n_div, n_dec, n_mx, n_mn, eq_m1, eq_m2, ss_same, ss_ne, ss_r, ss_l, sr_f, sr_l, sr_same, sr_ne, sw_f, sw_l, sw_at, sw_ne, pk_us, pk_un, bI_t, bI_f, not_true_eq_false, not_false_eq_true, eq_self, and_true, true_and, and_false, false_and, or_true, true_or, or_false, false_or, decide_true, decide_false, Bool.false_eq_true, Bool.true_eq_false, ↓cal2_w (f1), f1, h20])
            simp (disch := omega) only [↓bnd_i, ↓cal_s, ↓cal_n, ↓cal2_s, ↓cal2_n, cal_s, cal2_s, ↓reduceIte, fa_lit, m1_lit, m2_lit, m1_lt, m2_lt, m1_eq, m2_eq, m1_le, m2_le, le_m1, le_m2, lt_m1, lt_m2, m12, m21, m1_m1, n_lt, n_le, n_eq, lt_t, lt_f, le_t, le_f, eq_t, eq_f, n_cl, inb_ok, n_add, pk_mul, pk_sub, n_rem, n_div, n_dec, n_mx, n_mn, eq_m1, eq_m2, ss_same, ss_ne, ss_r, ss_l, sr_f, sr_l, sr_same, sr_ne, sw_f, sw_l, sw_at, sw_ne, pk_us, pk_un, bI_t, bI_f, not_true_eq_false, not_false_eq_true, eq_self, and_true, true_and, and_false, false_and, or_true, true_or, or_false, false_or, decide_true, decide_false, Bool.false_eq_true, Bool.true_eq_false, ↓cal_w (wk), wk, h20]
            exact q
end
