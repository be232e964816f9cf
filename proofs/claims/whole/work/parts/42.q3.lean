/-! PURE: questions that go over all records, or over all pieces -/
/-- the line of a row -/
def lrF (N : Nat → Int32) (r : Nat) : Nat → Nat
  | 0 => 0
  | l + 1 => if sm N (l + 1) ≤ r then l + 1 else lrF N r l
def lr (N : Nat → Int32) (r : Nat) : Nat := lrF N r (nl N - 1)
theorem lrF_eq {N : Nat → Int32} {r a : Nat} (h1 : sm N a ≤ r) (h2 : r < sm N (a + 1)) : ∀ l, a ≤ l → lrF N r l = a := by
  intro l
  induction l with
  | zero => intro h; rw [lrF]; omega
  | succ l ih =>
    intro h
    rw [lrF]
    by_cases c : l + 1 = a
    · rw [if_pos (by rw [c]; exact h1), c]
    · have := sm_mono (N := N) (show a + 1 ≤ l + 1 by omega)
      rw [if_neg (by omega)]
      exact ih (by omega)
theorem lr_eq {N : Nat → Int32} {r a : Nat} (ha : a < nl N) (h1 : sm N a ≤ r) (h2 : r < sm N (a + 1)) : lr N r = a := lrF_eq h1 h2 _ (by omega)
/-- each row is of a line -/
theorem lr_in {N : Nat → Int32} {r : Nat} : ∀ l, r < sm N l → ∃ a, a < l ∧ sm N a ≤ r ∧ r < sm N (a + 1) := by
  intro l
  induction l with
  | zero => intro h; exact absurd h (Nat.not_lt_zero _)
  | succ l ih =>
    intro h
    by_cases c : sm N l ≤ r
    · exact ⟨l, by omega, c, h⟩
    · obtain ⟨a, x, y, z⟩ := ih (by omega)
      exact ⟨a, by omega, y, z⟩
/-- the first of the rows that are such -/
def w1 (P : Nat → Bool) : Nat → Option Nat
  | 0 => none
  | n + 1 => match w1 P n with
    | some r => some r
    | none => if P n then some n else none
theorem w1_s {P : Nat → Bool} {n : Nat} : w1 P (n + 1) = match w1 P n with
    | some r => some r
    | none => if P n then some n else none := rfl
theorem w1_none {P : Nat → Bool} : ∀ n, fb_ct P n = 0 ↔ w1 P n = none := by
  intro n
  induction n with
  | zero => exact ⟨fun _ => rfl, fun _ => rfl⟩
  | succ n ih =>
    rw [fb_ct_succ, w1]
    cases c : w1 P n with
    | none =>
      have := ih.mpr c
      cases d : P n <;> simp [this]
    | some r =>
      have : fb_ct P n ≠ 0 := fun e => by rw [ih.mp e] at c; cases c
      simp
      intro e
      exact absurd e this
theorem w1_lt {P : Nat → Bool} : ∀ n r, w1 P n = some r → r < n := by
  intro n
  induction n with
  | zero => intro r h; cases h
  | succ n ih =>
    intro r h
    rw [w1] at h
    cases c : w1 P n with
    | none =>
      rw [c] at h
      cases d : P n
      · simp [d] at h
      · simp [d] at h; omega
    | some q =>
      rw [c] at h
      have := ih q c
      simp at h
      omega
/-- whether a row is a mark with a number -/
def rM (σ : St) (x : Int32) (r : Nat) : Bool := decide (σ.2.1 15 r = nI 2 ∧ σ.2.1 16 r = x)
def wL (N : Nat → Int32) : Option Nat → Int32
  | none => m2
  | some r => nI (lr N r)
def wP (N : Nat → Int32) : Option Nat → Int32
  | none => m2
  | some r => nI (fk N (lr N r) + r - sm N (lr N r) + 1)
def wX : Option Nat → Int32
  | none => m2
  | some r => nI r
theorem d_isMarkR {F : Nat} {σ : St} {N : Nat → Int32} (h : NN N) (j : JJ σ N) {r : Nat} (hr : r < md N) (x : Int32) : f_X2_isMark F σ (nI r) x = some (bI (rM σ x r)) := by
  obtain ⟨b1, b2, b3, b4, b5, b6, b7, b8⟩ := NNb h
  unfold f_X2_isMark rM
  by_cases c : σ.2.1 15 r = nI 2
  · by_cases d : σ.2.1 16 r = x
    · simp (disch := omega) only [↓bnd_i, ↓cal_s, ↓cal_n, ↓cal2_s, ↓cal2_n, cal_s, cal2_s, ↓reduceIte, fa_lit, m1_lit, m2_lit, m1_lt, m2_lt, m1_eq, m2_eq, m1_le, m2_le, le_m1, le_m2, lt_m1, lt_m2, m12, m21, m1_m1, n_lt, n_le, n_eq, lt_t, lt_f, le_t, le_f, eq_t, eq_f, n_cl, inb_ok, n_add, pk_mul, pk_sub, n_rem, n_div, n_dec, n_mx, n_mn, eq_m1, eq_m2, ss_same, ss_ne, ss_r, ss_l, sr_f, sr_l, sr_same, sr_ne, sw_f, sw_l, sw_at, sw_ne, pk_us, pk_un, bI_t, bI_f, not_true_eq_false, not_false_eq_true, eq_self, and_true, true_and, and_false, false_and, or_true, true_or, or_false, false_or, decide_true, decide_false, Bool.false_eq_true, Bool.true_eq_false, ↓cal_w (d_hasRow h j hr), d_hasRow h j hr, c, d]
    · simp (disch := omega) only [↓bnd_i, ↓cal_s, ↓cal_n, ↓cal2_s, ↓cal2_n, cal_s, cal2_s, ↓reduceIte, fa_lit, m1_lit, m2_lit, m1_lt, m2_lt, m1_eq, m2_eq, m1_le, m2_le, le_m1, le_m2, lt_m1, lt_m2, m12, m21, m1_m1, n_lt, n_le, n_eq, lt_t, lt_f, le_t, le_f, eq_t, eq_f, n_cl, inb_ok, n_add, pk_mul, pk_sub, n_rem, n_div, n_dec, n_mx, n_mn, eq_m1, eq_m2, ss_same, ss_ne, ss_r, ss_l, sr_f, sr_l, sr_same, sr_ne, sw_f, sw_l, sw_at, sw_ne, pk_us, pk_un, bI_t, bI_f, not_true_eq_false, not_false_eq_true, eq_self, and_true, true_and, and_false, false_and, or_true, true_or, or_false, false_or, decide_true, decide_false, Bool.false_eq_true, Bool.true_eq_false, ↓cal_w (d_hasRow h j hr), d_hasRow h j hr, c, eq_false d]
  · simp (disch := omega) only [↓bnd_i, ↓cal_s, ↓cal_n, ↓cal2_s, ↓cal2_n, cal_s, cal2_s, ↓reduceIte, fa_lit, m1_lit, m2_lit, m1_lt, m2_lt, m1_eq, m2_eq, m1_le, m2_le, le_m1, le_m2, lt_m1, lt_m2, m12, m21, m1_m1, n_lt, n_le, n_eq, lt_t, lt_f, le_t, le_f, eq_t, eq_f, n_cl, inb_ok, n_add, pk_mul, pk_sub, n_rem, n_div, n_dec, n_mx, n_mn, eq_m1, eq_m2, ss_same, ss_ne, ss_r, ss_l, sr_f, sr_l, sr_same, sr_ne, sw_f, sw_l, sw_at, sw_ne, pk_us, pk_un, bI_t, bI_f, not_true_eq_false, not_false_eq_true, eq_self, and_true, true_and, and_false, false_and, or_true, true_or, or_false, false_or, decide_true, decide_false, Bool.false_eq_true, Bool.true_eq_false, ↓cal_w (d_hasRow h j hr), d_hasRow h j hr, eq_false c]
theorem ow_self {N : Nat → Int32} {l p : Nat} (h : fk N l < p) : ow N l p = l := by
  cases l with
  | zero => rfl
  | succ l => simp [ow, owF, h]
theorem ro_self {N : Nat → Int32} {l p : Nat} (h : fk N l < p) : ro N l p = sm N l + p - fk N l - 1 := by
  unfold ro; rw [ow_self h]
theorem mk_rM {σ : St} {N : Nat → Int32} (h : NN N) (j : JJ σ N) {l p : Nat} (hl : l < nl N) (hp1 : 1 ≤ p) (hp : p ≤ tp N l) (x : Int32) : mk N l p x = rM σ x (ro N l p) := by
  obtain ⟨s1, s2, s3⟩ := j_rec h j hl hp1 hp
  have hs := (rc_in h hl hp1 hp).2.1
  unfold mk rM
  rw [s1, s2]
  exact decide_eq_decide.mpr (by rw [n_eq (by omega) (by omega)])
theorem q_where {F : Nat} (hF : 700 < F) {σ τ : St} (C : Core σ τ) (x y : Int32) : Qy (f_X7_where F σ x y) (f_X8_where F τ x y) := by
  obtain ⟨b1, b2, b3, b4, b5, b6, b7, b8⟩ := NNb C.1
  obtain ⟨e4, e5, e6, e7, e8⟩ := JJf C.1 C.2
  have hmd := C.2.1.2.2.2
  have h2 : τ.2.1 19 2 = nI (nl (nw τ)) := C.1.1.2.2.1.1
  have hin := in_isN (F := F) (τ := τ) (x := y) (n := 3) (by omega) (by omega)
  rw [pk_sub (by omega)] at hin
  unfold f_X7_where f_X8_where
  cases c : isN y 3
  · rw [c] at hin
    rcases n_ex y with hy | ⟨i, hi, rfl⟩
    · simp (disch := omega) only [↓bnd_i, ↓cal_s, ↓cal_n, ↓cal2_s, ↓cal2_n, cal_s, cal2_s, ↓reduceIte, fa_lit, m1_lit, m2_lit, m1_lt, m2_lt, m1_eq, m2_eq, m1_le, m2_le, le_m1, le_m2, lt_m1, lt_m2, m12, m21, m1_m1, n_lt, n_le, n_eq, lt_t, lt_f, le_t, le_f, eq_t, eq_f, n_cl, inb_ok, n_add, pk_mul, pk_sub, n_rem, n_div, n_dec, n_mx, n_mn, eq_m1, eq_m2, ss_same, ss_ne, ss_r, ss_l, sr_f, sr_l, sr_same, sr_ne, sw_f, sw_l, sw_at, sw_ne, pk_us, pk_un, bI_t, bI_f, not_true_eq_false, not_false_eq_true, eq_self, and_true, true_and, and_false, false_and, or_true, true_or, or_false, false_or, decide_true, decide_false, Bool.false_eq_true, Bool.true_eq_false, ↓cal_w (hin), hin, eq_true (show y < nI 0 from hy)]
      exact Qy.mk
    · rw [isN_n hi] at c
      have c' := of_decide_eq_false c
      simp (disch := omega) only [↓bnd_i, ↓cal_s, ↓cal_n, ↓cal2_s, ↓cal2_n, cal_s, cal2_s, ↓reduceIte, fa_lit, m1_lit, m2_lit, m1_lt, m2_lt, m1_eq, m2_eq, m1_le, m2_le, le_m1, le_m2, lt_m1, lt_m2, m12, m21, m1_m1, n_lt, n_le, n_eq, lt_t, lt_f, le_t, le_f, eq_t, eq_f, n_cl, inb_ok, n_add, pk_mul, pk_sub, n_rem, n_div, n_dec, n_mx, n_mn, eq_m1, eq_m2, ss_same, ss_ne, ss_r, ss_l, sr_f, sr_l, sr_same, sr_ne, sw_f, sw_l, sw_at, sw_ne, pk_us, pk_un, bI_t, bI_f, not_true_eq_false, not_false_eq_true, eq_self, and_true, true_and, and_false, false_and, or_true, true_or, or_false, false_or, decide_true, decide_false, Bool.false_eq_true, Bool.true_eq_false, ↓cal_w (hin), hin]
      exact Qy.mk
  · rw [c] at hin
    obtain ⟨k, hk, rfl⟩ := isN_e c (by omega)
    generalize hP : rM σ x = P
    -- what is answered
    have hct := fb_ct_le P (md (nw τ))
    have k1 : ∀ n i, i ≤ md (nw τ) → md (nw τ) - i < n → f_X7_where_20 F n σ x (nI k) (nI (fb_ct P i)) (wX (w1 P i)) (nI i) = some (if k = 0 then nI (fb_ct P (md (nw τ))) else if k = 1 then wL (nw τ) (w1 P (md (nw τ))) else wP (nw τ) (w1 P (md (nw τ)))) := by
      intro n
      induction n with
      | zero => intro i _ h; omega
      | succ n ih =>
        intro i hi hn
        have hci := fb_ct_le P i
        rw [f_X7_where_20]
        by_cases e : i = md (nw τ)
        · rw [e]
          by_cases ek : k = 0
          · subst ek
            simp (disch := omega) only [↓bnd_i, ↓cal_s, ↓cal_n, ↓cal2_s, ↓cal2_n, cal_s, cal2_s, ↓reduceIte, fa_lit, m1_lit, m2_lit, m1_lt, m2_lt, m1_eq, m2_eq, m1_le, m2_le, le_m1, le_m2, lt_m1, lt_m2, m12, m21, m1_m1, n_lt, n_le, n_eq, lt_t, lt_f, le_t, le_f, eq_t, eq_f, n_cl, inb_ok, n_add, pk_mul, pk_sub, n_rem, n_div, n_dec, n_mx, n_mn, eq_m1, eq_m2, ss_same, ss_ne, ss_r, ss_l, sr_f, sr_l, sr_same, sr_ne, sw_f, sw_l, sw_at, sw_ne, pk_us, pk_un, bI_t, bI_f, not_true_eq_false, not_false_eq_true, eq_self, and_true, true_and, and_false, false_and, or_true, true_or, or_false, false_or, decide_true, decide_false, Bool.false_eq_true, Bool.true_eq_false, e7]
          · cases e1 : w1 P (md (nw τ)) with
            | none =>
              have e2 := (w1_none _).mpr e1
              by_cases ek1 : k = 1
              · simp (disch := omega) only [↓bnd_i, ↓cal_s, ↓cal_n, ↓cal2_s, ↓cal2_n, cal_s, cal2_s, ↓reduceIte, fa_lit, m1_lit, m2_lit, m1_lt, m2_lt, m1_eq, m2_eq, m1_le, m2_le, le_m1, le_m2, lt_m1, lt_m2, m12, m21, m1_m1, n_lt, n_le, n_eq, lt_t, lt_f, le_t, le_f, eq_t, eq_f, n_cl, inb_ok, n_add, pk_mul, pk_sub, n_rem, n_div, n_dec, n_mx, n_mn, eq_m1, eq_m2, ss_same, ss_ne, ss_r, ss_l, sr_f, sr_l, sr_same, sr_ne, sw_f, sw_l, sw_at, sw_ne, pk_us, pk_un, bI_t, bI_f, not_true_eq_false, not_false_eq_true, eq_self, and_true, true_and, and_false, false_and, or_true, true_or, or_false, false_or, decide_true, decide_false, Bool.false_eq_true, Bool.true_eq_false, e7, e2, wL]
              · simp (disch := omega) only [↓bnd_i, ↓cal_s, ↓cal_n, ↓cal2_s, ↓cal2_n, cal_s, cal2_s, ↓reduceIte, fa_lit, m1_lit, m2_lit, m1_lt, m2_lt, m1_eq, m2_eq, m1_le, m2_le, le_m1, le_m2, lt_m1, lt_m2, m12, m21, m1_m1, n_lt, n_le, n_eq, lt_t, lt_f, le_t, le_f, eq_t, eq_f, n_cl, inb_ok, n_add, pk_mul, pk_sub, n_rem, n_div, n_dec, n_mx, n_mn, eq_m1, eq_m2, ss_same, ss_ne, ss_r, ss_l, sr_f, sr_l, sr_same, sr_ne, sw_f, sw_l, sw_at, sw_ne, pk_us, pk_un, bI_t, bI_f, not_true_eq_false, not_false_eq_true, eq_self, and_true, true_and, and_false, false_and, or_true, true_or, or_false, false_or, decide_true, decide_false, Bool.false_eq_true, Bool.true_eq_false, e7, e2, wP]
            | some r =>
              have hr := w1_lt _ _ e1
              have e2 : fb_ct P (md (nw τ)) ≠ 0 := fun e3 => by rw [(w1_none _).mp e3] at e1; cases e1
              obtain ⟨a, ha, hs1, hs2⟩ := lr_in (N := nw τ) (r := r) (nl (nw τ)) (by omega)
              have hl := lr_eq ha hs1 hs2
              have hss := sm_succ (N := nw τ) a
              have hfa := fk_le C.1.2.1 ha
              have hta := (C.1.2.1.1 a ha).2
              have dl := d_lineOfRow (show 8 < F by omega) C.1 C.2 (show r < 600 by omega) ha hs1 hs2
              by_cases ek1 : k = 1
              · simp (disch := omega) only [↓bnd_i, ↓cal_s, ↓cal_n, ↓cal2_s, ↓cal2_n, cal_s, cal2_s, ↓reduceIte, fa_lit, m1_lit, m2_lit, m1_lt, m2_lt, m1_eq, m2_eq, m1_le, m2_le, le_m1, le_m2, lt_m1, lt_m2, m12, m21, m1_m1, n_lt, n_le, n_eq, lt_t, lt_f, le_t, le_f, eq_t, eq_f, n_cl, inb_ok, n_add, pk_mul, pk_sub, n_rem, n_div, n_dec, n_mx, n_mn, eq_m1, eq_m2, ss_same, ss_ne, ss_r, ss_l, sr_f, sr_l, sr_same, sr_ne, sw_f, sw_l, sw_at, sw_ne, pk_us, pk_un, bI_t, bI_f, not_true_eq_false, not_false_eq_true, eq_self, and_true, true_and, and_false, false_and, or_true, true_or, or_false, false_or, decide_true, decide_false, Bool.false_eq_true, Bool.true_eq_false, ↓cal_w (dl), dl, e7, wL, wX, hl]
              · simp (disch := omega) only [↓bnd_i, ↓cal_s, ↓cal_n, ↓cal2_s, ↓cal2_n, cal_s, cal2_s, ↓reduceIte, fa_lit, m1_lit, m2_lit, m1_lt, m2_lt, m1_eq, m2_eq, m1_le, m2_le, le_m1, le_m2, lt_m1, lt_m2, m12, m21, m1_m1, n_lt, n_le, n_eq, lt_t, lt_f, le_t, le_f, eq_t, eq_f, n_cl, inb_ok, n_add, pk_mul, pk_sub, n_rem, n_div, n_dec, n_mx, n_mn, eq_m1, eq_m2, ss_same, ss_ne, ss_r, ss_l, sr_f, sr_l, sr_same, sr_ne, sw_f, sw_l, sw_at, sw_ne, pk_us, pk_un, bI_t, bI_f, not_true_eq_false, not_false_eq_true, eq_self, and_true, true_and, and_false, false_and, or_true, true_or, or_false, false_or, decide_true, decide_false, Bool.false_eq_true, Bool.true_eq_false, ↓cal_w (dl), dl, ↓cal_w (d_hasLine C.1.1 C.2.1 _), d_hasLine C.1.1 C.2.1 _, e7, wP, wX, hl, f_X2_placeOfRow, isN_t ha (show nl (nw τ) ≤ 2 ^ 31 by omega), j_fork C.2 ha, j_start C.2 ha]
        · have ih' := ih (i + 1) (by omega) (by omega)
          have dm := d_isMarkR (F := F) C.1 C.2 (show i < md (nw τ) by omega) x
          rw [hP] at dm
          rw [fb_ct_succ, w1_s] at ih'
          cases d : P i
          · rw [d] at ih' dm
            cases e1 : w1 P i with
            | none =>
              rw [e1] at ih'
              simp (disch := omega) only [↓bnd_i, ↓cal_s, ↓cal_n, ↓cal2_s, ↓cal2_n, cal_s, cal2_s, ↓reduceIte, fa_lit, m1_lit, m2_lit, m1_lt, m2_lt, m1_eq, m2_eq, m1_le, m2_le, le_m1, le_m2, lt_m1, lt_m2, m12, m21, m1_m1, n_lt, n_le, n_eq, lt_t, lt_f, le_t, le_f, eq_t, eq_f, n_cl, inb_ok, n_add, pk_mul, pk_sub, n_rem, n_div, n_dec, n_mx, n_mn, eq_m1, eq_m2, ss_same, ss_ne, ss_r, ss_l, sr_f, sr_l, sr_same, sr_ne, sw_f, sw_l, sw_at, sw_ne, pk_us, pk_un, bI_t, bI_f, not_true_eq_false, not_false_eq_true, eq_self, and_true, true_and, and_false, false_and, or_true, true_or, or_false, false_or, decide_true, decide_false, Bool.false_eq_true, Bool.true_eq_false, ↓cal_w (dm), dm, e7, f_X7_where_61]
              exact ih'
            | some r =>
              rw [e1] at ih'
              simp (disch := omega) only [↓bnd_i, ↓cal_s, ↓cal_n, ↓cal2_s, ↓cal2_n, cal_s, cal2_s, ↓reduceIte, fa_lit, m1_lit, m2_lit, m1_lt, m2_lt, m1_eq, m2_eq, m1_le, m2_le, le_m1, le_m2, lt_m1, lt_m2, m12, m21, m1_m1, n_lt, n_le, n_eq, lt_t, lt_f, le_t, le_f, eq_t, eq_f, n_cl, inb_ok, n_add, pk_mul, pk_sub, n_rem, n_div, n_dec, n_mx, n_mn, eq_m1, eq_m2, ss_same, ss_ne, ss_r, ss_l, sr_f, sr_l, sr_same, sr_ne, sw_f, sw_l, sw_at, sw_ne, pk_us, pk_un, bI_t, bI_f, not_true_eq_false, not_false_eq_true, eq_self, and_true, true_and, and_false, false_and, or_true, true_or, or_false, false_or, decide_true, decide_false, Bool.false_eq_true, Bool.true_eq_false, ↓cal_w (dm), dm, e7, f_X7_where_61]
              exact ih'
          · rw [d] at ih' dm
            cases e1 : w1 P i with
            | none =>
              have e2 := (w1_none _).mpr e1
              rw [e1, e2] at ih'
              simp (disch := omega) only [↓bnd_i, ↓cal_s, ↓cal_n, ↓cal2_s, ↓cal2_n, cal_s, cal2_s, ↓reduceIte, fa_lit, m1_lit, m2_lit, m1_lt, m2_lt, m1_eq, m2_eq, m1_le, m2_le, le_m1, le_m2, lt_m1, lt_m2, m12, m21, m1_m1, n_lt, n_le, n_eq, lt_t, lt_f, le_t, le_f, eq_t, eq_f, n_cl, inb_ok, n_add, pk_mul, pk_sub, n_rem, n_div, n_dec, n_mx, n_mn, eq_m1, eq_m2, ss_same, ss_ne, ss_r, ss_l, sr_f, sr_l, sr_same, sr_ne, sw_f, sw_l, sw_at, sw_ne, pk_us, pk_un, bI_t, bI_f, not_true_eq_false, not_false_eq_true, eq_self, and_true, true_and, and_false, false_and, or_true, true_or, or_false, false_or, decide_true, decide_false, Bool.false_eq_true, Bool.true_eq_false, ↓cal_w (dm), dm, e7, e2, f_X7_where_61, f_X7_where_56]
              exact ih'
            | some r =>
              have e2 : fb_ct P i ≠ 0 := fun e3 => by rw [(w1_none _).mp e3] at e1; cases e1
              rw [e1] at ih'
              simp (disch := omega) only [↓bnd_i, ↓cal_s, ↓cal_n, ↓cal2_s, ↓cal2_n, cal_s, cal2_s, ↓reduceIte, fa_lit, m1_lit, m2_lit, m1_lt, m2_lt, m1_eq, m2_eq, m1_le, m2_le, le_m1, le_m2, lt_m1, lt_m2, m12, m21, m1_m1, n_lt, n_le, n_eq, lt_t, lt_f, le_t, le_f, eq_t, eq_f, n_cl, inb_ok, n_add, pk_mul, pk_sub, n_rem, n_div, n_dec, n_mx, n_mn, eq_m1, eq_m2, ss_same, ss_ne, ss_r, ss_l, sr_f, sr_l, sr_same, sr_ne, sw_f, sw_l, sw_at, sw_ne, pk_us, pk_un, bI_t, bI_f, not_true_eq_false, not_false_eq_true, eq_self, and_true, true_and, and_false, false_and, or_true, true_or, or_false, false_or, decide_true, decide_false, Bool.false_eq_true, Bool.true_eq_false, ↓cal_w (dm), dm, e7, f_X7_where_61, f_X7_where_56]
              exact ih'
    have k2 : ∀ n l, l ≤ nl (nw τ) → nl (nw τ) - l < n → f_X8_where_24 F n τ x (nI k) (nI (fb_ct P (sm (nw τ) l))) (wL (nw τ) (w1 P (sm (nw τ) l))) (wP (nw τ) (w1 P (sm (nw τ) l))) (nI l) = some (if k = 0 then nI (fb_ct P (md (nw τ))) else if k = 1 then wL (nw τ) (w1 P (md (nw τ))) else wP (nw τ) (w1 P (md (nw τ)))) := by
      intro n
      induction n with
      | zero => intro l _ h; omega
      | succ n ih =>
        intro l hl hn
        rw [f_X8_where_24]
        by_cases e : l = nl (nw τ)
        · rw [e, ← hmd]
          by_cases ek : k = 0
          · simp (disch := omega) only [↓bnd_i, ↓cal_s, ↓cal_n, ↓cal2_s, ↓cal2_n, cal_s, cal2_s, ↓reduceIte, fa_lit, m1_lit, m2_lit, m1_lt, m2_lt, m1_eq, m2_eq, m1_le, m2_le, le_m1, le_m2, lt_m1, lt_m2, m12, m21, m1_m1, n_lt, n_le, n_eq, lt_t, lt_f, le_t, le_f, eq_t, eq_f, n_cl, inb_ok, n_add, pk_mul, pk_sub, n_rem, n_div, n_dec, n_mx, n_mn, eq_m1, eq_m2, ss_same, ss_ne, ss_r, ss_l, sr_f, sr_l, sr_same, sr_ne, sw_f, sw_l, sw_at, sw_ne, pk_us, pk_un, bI_t, bI_f, not_true_eq_false, not_false_eq_true, eq_self, and_true, true_and, and_false, false_and, or_true, true_or, or_false, false_or, decide_true, decide_false, Bool.false_eq_true, Bool.true_eq_false, h2]
          · by_cases ek1 : k = 1
            · simp (disch := omega) only [↓bnd_i, ↓cal_s, ↓cal_n, ↓cal2_s, ↓cal2_n, cal_s, cal2_s, ↓reduceIte, fa_lit, m1_lit, m2_lit, m1_lt, m2_lt, m1_eq, m2_eq, m1_le, m2_le, le_m1, le_m2, lt_m1, lt_m2, m12, m21, m1_m1, n_lt, n_le, n_eq, lt_t, lt_f, le_t, le_f, eq_t, eq_f, n_cl, inb_ok, n_add, pk_mul, pk_sub, n_rem, n_div, n_dec, n_mx, n_mn, eq_m1, eq_m2, ss_same, ss_ne, ss_r, ss_l, sr_f, sr_l, sr_same, sr_ne, sw_f, sw_l, sw_at, sw_ne, pk_us, pk_un, bI_t, bI_f, not_true_eq_false, not_false_eq_true, eq_self, and_true, true_and, and_false, false_and, or_true, true_or, or_false, false_or, decide_true, decide_false, Bool.false_eq_true, Bool.true_eq_false, h2]
            · simp (disch := omega) only [↓bnd_i, ↓cal_s, ↓cal_n, ↓cal2_s, ↓cal2_n, cal_s, cal2_s, ↓reduceIte, fa_lit, m1_lit, m2_lit, m1_lt, m2_lt, m1_eq, m2_eq, m1_le, m2_le, le_m1, le_m2, lt_m1, lt_m2, m12, m21, m1_m1, n_lt, n_le, n_eq, lt_t, lt_f, le_t, le_f, eq_t, eq_f, n_cl, inb_ok, n_add, pk_mul, pk_sub, n_rem, n_div, n_dec, n_mx, n_mn, eq_m1, eq_m2, ss_same, ss_ne, ss_r, ss_l, sr_f, sr_l, sr_same, sr_ne, sw_f, sw_l, sw_at, sw_ne, pk_us, pk_un, bI_t, bI_f, not_true_eq_false, not_false_eq_true, eq_self, and_true, true_and, and_false, false_and, or_true, true_or, or_false, false_or, decide_true, decide_false, Bool.false_eq_true, Bool.true_eq_false, h2]
        · have hll : l < nl (nw τ) := by omega
          have ht := C.1.2.1.1 l hll
          have hf := fk_le C.1.2.1 hll
          have ih' := ih (l + 1) (by omega) (by omega)
          have hss := sm_succ (N := nw τ) l
          have hsm : sm (nw τ) (l + 1) ≤ md (nw τ) := by rw [hmd]; exact sm_mono (by omega)
          have k3 : ∀ m p, fk (nw τ) l < p → p ≤ tp (nw τ) l + 1 → tp (nw τ) l + 1 - p < m → f_X8_where_45 F (f_X8_where_24 F n) m τ x (nI k) (nI (fb_ct P (sm (nw τ) l + p - fk (nw τ) l - 1))) (wL (nw τ) (w1 P (sm (nw τ) l + p - fk (nw τ) l - 1))) (wP (nw τ) (w1 P (sm (nw τ) l + p - fk (nw τ) l - 1))) (nI l) (nI p) = some (if k = 0 then nI (fb_ct P (md (nw τ))) else if k = 1 then wL (nw τ) (w1 P (md (nw τ))) else wP (nw τ) (w1 P (md (nw τ)))) := by
            intro m
            induction m with
            | zero => intro p _ _ h; omega
            | succ m ihm =>
              intro p hp1 hp2 hm
              rw [f_X8_where_45]
              by_cases e3 : p = tp (nw τ) l + 1
              · rw [show sm (nw τ) l + p - fk (nw τ) l - 1 = sm (nw τ) (l + 1) by omega]
                simp (disch := omega) only [↓bnd_i, ↓cal_s, ↓cal_n, ↓cal2_s, ↓cal2_n, cal_s, cal2_s, ↓reduceIte, fa_lit, m1_lit, m2_lit, m1_lt, m2_lt, m1_eq, m2_eq, m1_le, m2_le, le_m1, le_m2, lt_m1, lt_m2, m12, m21, m1_m1, n_lt, n_le, n_eq, lt_t, lt_f, le_t, le_f, eq_t, eq_f, n_cl, inb_ok, n_add, pk_mul, pk_sub, n_rem, n_div, n_dec, n_mx, n_mn, eq_m1, eq_m2, ss_same, ss_ne, ss_r, ss_l, sr_f, sr_l, sr_same, sr_ne, sw_f, sw_l, sw_at, sw_ne, pk_us, pk_un, bI_t, bI_f, not_true_eq_false, not_false_eq_true, eq_self, and_true, true_and, and_false, false_and, or_true, true_or, or_false, false_or, decide_true, decide_false, Bool.false_eq_true, Bool.true_eq_false, ↓cal_w (t_placeOf (τ := τ) (show l < 8 by omega)), t_placeOf (τ := τ) (show l < 8 by omega), ht.1]
                exact ih'
              · have hr := ro_self (N := nw τ) hp1
                have hmk := mk_rM C.1 C.2 hll (show 1 ≤ p by omega) (show p ≤ tp (nw τ) l by omega) x
                rw [hr, hP] at hmk
                have tm := t_isMark (F := F) (show 8 < F by omega) C.1 hll (show 1 ≤ p by omega) (show p ≤ tp (nw τ) l by omega) x
                rw [hmk] at tm
                have ihm' := ihm (p + 1) (by omega) (by omega) (by omega)
                generalize hq : sm (nw τ) l + p - fk (nw τ) l - 1 = q at *
                have hq1 : sm (nw τ) l + (p + 1) - fk (nw τ) l - 1 = q + 1 := by omega
                rw [hq1, fb_ct_succ, w1_s] at ihm'
                have hcq := fb_ct_le P q
                have hlq : lr (nw τ) q = l := lr_eq hll (by omega) (by omega)
                have hpq : fk (nw τ) l + q - sm (nw τ) l + 1 = p := by omega
                cases d : P q
                · rw [d] at ihm' tm
                  cases e1 : w1 P q with
                  | none =>
                    rw [e1] at ihm'
                    simp (disch := omega) only [↓bnd_i, ↓cal_s, ↓cal_n, ↓cal2_s, ↓cal2_n, cal_s, cal2_s, ↓reduceIte, fa_lit, m1_lit, m2_lit, m1_lt, m2_lt, m1_eq, m2_eq, m1_le, m2_le, le_m1, le_m2, lt_m1, lt_m2, m12, m21, m1_m1, n_lt, n_le, n_eq, lt_t, lt_f, le_t, le_f, eq_t, eq_f, n_cl, inb_ok, n_add, pk_mul, pk_sub, n_rem, n_div, n_dec, n_mx, n_mn, eq_m1, eq_m2, ss_same, ss_ne, ss_r, ss_l, sr_f, sr_l, sr_same, sr_ne, sw_f, sw_l, sw_at, sw_ne, pk_us, pk_un, bI_t, bI_f, not_true_eq_false, not_false_eq_true, eq_self, and_true, true_and, and_false, false_and, or_true, true_or, or_false, false_or, decide_true, decide_false, Bool.false_eq_true, Bool.true_eq_false, ↓cal_w (t_placeOf (τ := τ) (show l < 8 by omega)), t_placeOf (τ := τ) (show l < 8 by omega), ↓cal_w (tm), tm, ht.1, f_X8_where_86]
                    exact ihm'
                  | some r =>
                    rw [e1] at ihm'
                    simp (disch := omega) only [↓bnd_i, ↓cal_s, ↓cal_n, ↓cal2_s, ↓cal2_n, cal_s, cal2_s, ↓reduceIte, fa_lit, m1_lit, m2_lit, m1_lt, m2_lt, m1_eq, m2_eq, m1_le, m2_le, le_m1, le_m2, lt_m1, lt_m2, m12, m21, m1_m1, n_lt, n_le, n_eq, lt_t, lt_f, le_t, le_f, eq_t, eq_f, n_cl, inb_ok, n_add, pk_mul, pk_sub, n_rem, n_div, n_dec, n_mx, n_mn, eq_m1, eq_m2, ss_same, ss_ne, ss_r, ss_l, sr_f, sr_l, sr_same, sr_ne, sw_f, sw_l, sw_at, sw_ne, pk_us, pk_un, bI_t, bI_f, not_true_eq_false, not_false_eq_true, eq_self, and_true, true_and, and_false, false_and, or_true, true_or, or_false, false_or, decide_true, decide_false, Bool.false_eq_true, Bool.true_eq_false, ↓cal_w (t_placeOf (τ := τ) (show l < 8 by omega)), t_placeOf (τ := τ) (show l < 8 by omega), ↓cal_w (tm), tm, ht.1, f_X8_where_86]
                    exact ihm'
                · rw [d] at ihm' tm
                  cases e1 : w1 P q with
                  | none =>
                    have e2 := (w1_none _).mpr e1
                    rw [e1, e2] at ihm'
                    simp only [if_true, wL, wP, hlq, hpq] at ihm'
                    simp (disch := omega) only [↓bnd_i, ↓cal_s, ↓cal_n, ↓cal2_s, ↓cal2_n, cal_s, cal2_s, ↓reduceIte, fa_lit, m1_lit, m2_lit, m1_lt, m2_lt, m1_eq, m2_eq, m1_le, m2_le, le_m1, le_m2, lt_m1, lt_m2, m12, m21, m1_m1, n_lt, n_le, n_eq, lt_t, lt_f, le_t, le_f, eq_t, eq_f, n_cl, inb_ok, n_add, pk_mul, pk_sub, n_rem, n_div, n_dec, n_mx, n_mn, eq_m1, eq_m2, ss_same, ss_ne, ss_r, ss_l, sr_f, sr_l, sr_same, sr_ne, sw_f, sw_l, sw_at, sw_ne, pk_us, pk_un, bI_t, bI_f, not_true_eq_false, not_false_eq_true, eq_self, and_true, true_and, and_false, false_and, or_true, true_or, or_false, false_or, decide_true, decide_false, Bool.false_eq_true, Bool.true_eq_false, ↓cal_w (t_placeOf (τ := τ) (show l < 8 by omega)), t_placeOf (τ := τ) (show l < 8 by omega), ↓cal_w (tm), tm, ht.1, e2, f_X8_where_86, f_X8_where_83]
                    exact ihm'
                  | some r =>
                    have e2 : fb_ct P q ≠ 0 := fun e3 => by rw [(w1_none _).mp e3] at e1; cases e1
                    rw [e1] at ihm'
                    simp (disch := omega) only [↓bnd_i, ↓cal_s, ↓cal_n, ↓cal2_s, ↓cal2_n, cal_s, cal2_s, ↓reduceIte, fa_lit, m1_lit, m2_lit, m1_lt, m2_lt, m1_eq, m2_eq, m1_le, m2_le, le_m1, le_m2, lt_m1, lt_m2, m12, m21, m1_m1, n_lt, n_le, n_eq, lt_t, lt_f, le_t, le_f, eq_t, eq_f, n_cl, inb_ok, n_add, pk_mul, pk_sub, n_rem, n_div, n_dec, n_mx, n_mn, eq_m1, eq_m2, ss_same, ss_ne, ss_r, ss_l, sr_f, sr_l, sr_same, sr_ne, sw_f, sw_l, sw_at, sw_ne, pk_us, pk_un, bI_t, bI_f, not_true_eq_false, not_false_eq_true, eq_self, and_true, true_and, and_false, false_and, or_true, true_or, or_false, false_or, decide_true, decide_false, Bool.false_eq_true, Bool.true_eq_false, ↓cal_w (t_placeOf (τ := τ) (show l < 8 by omega)), t_placeOf (τ := τ) (show l < 8 by omega), ↓cal_w (tm), tm, ht.1, f_X8_where_86, f_X8_where_83]
                    exact ihm'
          have k4 := k3 F (fk (nw τ) l + 1) (by omega) (by omega) (by omega)
          rw [show sm (nw τ) l + (fk (nw τ) l + 1) - fk (nw τ) l - 1 = sm (nw τ) l by omega] at k4
          simp (disch := omega) only [↓bnd_i, ↓cal_s, ↓cal_n, ↓cal2_s, ↓cal2_n, cal_s, cal2_s, ↓reduceIte, fa_lit, m1_lit, m2_lit, m1_lt, m2_lt, m1_eq, m2_eq, m1_le, m2_le, le_m1, le_m2, lt_m1, lt_m2, m12, m21, m1_m1, n_lt, n_le, n_eq, lt_t, lt_f, le_t, le_f, eq_t, eq_f, n_cl, inb_ok, n_add, pk_mul, pk_sub, n_rem, n_div, n_dec, n_mx, n_mn, eq_m1, eq_m2, ss_same, ss_ne, ss_r, ss_l, sr_f, sr_l, sr_same, sr_ne, sw_f, sw_l, sw_at, sw_ne, pk_us, pk_un, bI_t, bI_f, not_true_eq_false, not_false_eq_true, eq_self, and_true, true_and, and_false, false_and, or_true, true_or, or_false, false_or, decide_true, decide_false, Bool.false_eq_true, Bool.true_eq_false, ↓cal_w (t_forkOf C.1.2.1 hll b6), t_forkOf C.1.2.1 hll b6, h2]
          exact k4
    have e1 := k1 F 0 (by omega) (by omega)
    have e2 := k2 F 0 (by omega) (by omega)
    simp (disch := omega) only [↓bnd_i, ↓cal_s, ↓cal_n, ↓cal2_s, ↓cal2_n, cal_s, cal2_s, ↓reduceIte, fa_lit, m1_lit, m2_lit, m1_lt, m2_lt, m1_eq, m2_eq, m1_le, m2_le, le_m1, le_m2, lt_m1, lt_m2, m12, m21, m1_m1, n_lt, n_le, n_eq, lt_t, lt_f, le_t, le_f, eq_t, eq_f, n_cl, inb_ok, n_add, pk_mul, pk_sub, n_rem, n_div, n_dec, n_mx, n_mn, eq_m1, eq_m2, ss_same, ss_ne, ss_r, ss_l, sr_f, sr_l, sr_same, sr_ne, sw_f, sw_l, sw_at, sw_ne, pk_us, pk_un, bI_t, bI_f, not_true_eq_false, not_false_eq_true, eq_self, and_true, true_and, and_false, false_and, or_true, true_or, or_false, false_or, decide_true, decide_false, Bool.false_eq_true, Bool.true_eq_false, ↓cal_w (hin), hin]
    exact ⟨_, e1, e2⟩
