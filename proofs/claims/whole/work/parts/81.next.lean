/-! PURE: the desk's next, against the model's run up to its next tell -/
section
variable {F : Nat} {kd vl pl : Nat → Nat} {e : Nat} {ps dp : Nat → Nat} {T c : Nat}
def FrW (σ σ' : St) : Prop := (∀ k, k < 26 ∨ 31 < k → σ'.1 k = σ.1 k) ∧ (∀ r, r < 29 ∨ 31 < r → σ'.2.1 r = σ.2.1 r) ∧ σ'.2.2 = σ.2.2
theorem FrW.refl (σ : St) : FrW σ σ := ⟨fun _ _ => rfl, fun _ _ => rfl, rfl⟩
theorem FrW.trans {a b d : St} (h : FrW a b) (k : FrW b d) : FrW a d := ⟨fun i hi => (k.1 i hi).trans (h.1 i hi), fun i hi => (k.2.1 i hi).trans (h.2.1 i hi), k.2.2.trans h.2.2⟩
theorem FrW.ss {σ σ' : St} {k : Nat} {v : Int32} (h : FrW σ σ') (hk : 26 ≤ k ∧ k ≤ 31) : FrW σ (ss σ' k v) := ⟨fun i hi => (ss_ne (by omega)).trans (h.1 i hi), h.2.1, h.2.2⟩
theorem FrW.sr {σ σ' : St} {a i : Nat} {v : Int32} (h : FrW σ σ') (ha : 29 ≤ a ∧ a ≤ 31) : FrW σ (sr σ' a i v) := ⟨h.1, fun r hr => (sr_ne (by omega)).trans (h.2.1 r hr), h.2.2⟩
theorem TkD.frW {σ σ' : St} (D : TkD kd vl pl e σ) (f : FrW σ σ') : TkD kd vl pl e σ' := ⟨by rw [f.1 19 (by omega)]; exact D.1, fun k hk => by rw [f.2.1 26 (by omega), f.2.1 27 (by omega), f.2.1 28 (by omega)]; exact D.2 k hk⟩
/-- the loops that stand open -/
def Lv (F : Nat) (kd vl ps dp : Nat → Nat) (T c : Nat) (σ τ : St) (t : Nat) : Nat → Nat → List Nat → Prop
  | _, _, [] => True
  | x, u, d :: r => (d < x ∧ kd (ps d) = 12 ∧ dp d = r.length ∧ ∀ j, d < j → j ≤ x → r.length < dp j) ∧ σ.2.1 29 r.length = nI (ps (d + 1)) ∧ ∃ rr ta, σ.2.1 30 r.length = nI rr ∧ τ.2.1 18 r.length = nI rr ∧ rr < vl (ps d + 1) ∧ σ.2.1 31 r.length = nI ta ∧ ta ≤ u ∧ (ta = t → QB F kd vl ps dp T c (d + 1) x (r.length + 1)) ∧ Lv F kd vl ps dp T c σ τ t d ta r
theorem Lv_cong {σ τ σ' τ' : St} {t : Nat} : ∀ {ob : List Nat} {x u : Nat}, (∀ l, l < ob.length → σ'.2.1 29 l = σ.2.1 29 l ∧ σ'.2.1 30 l = σ.2.1 30 l ∧ σ'.2.1 31 l = σ.2.1 31 l ∧ τ'.2.1 18 l = τ.2.1 18 l) → Lv F kd vl ps dp T c σ τ t x u ob → Lv F kd vl ps dp T c σ' τ' t x u ob
  | [], _, _, _, _ => trivial
  | d :: r, x, u, h, q => by
    obtain ⟨q1, q2, rr, ta, q3, q4, q5, q6, q7, q8, q9⟩ := q
    have hr := h r.length (Nat.lt_succ_self _)
    exact ⟨q1, hr.1.trans q2, rr, ta, hr.2.1.trans q3, hr.2.2.2.trans q4, q5, hr.2.2.1.trans q6, q7, q8, Lv_cong (fun l hl => h l (Nat.lt_succ_of_lt hl)) q9⟩
theorem Lv_t {σ τ : St} {t t1 : Nat} (ht : t < t1) : ∀ {ob : List Nat} {x u : Nat}, u ≤ t → Lv F kd vl ps dp T c σ τ t x u ob → Lv F kd vl ps dp T c σ τ t1 x u ob
  | [], _, _, _, _ => trivial
  | d :: r, x, u, h, q => by
    obtain ⟨q1, q2, rr, ta, q3, q4, q5, q6, q7, q8, q9⟩ := q
    exact ⟨q1, q2, rr, ta, q3, q4, q5, q6, q7, fun z => by omega, Lv_t ht (by omega) q9⟩
theorem Lv_fw {σ τ : St} {t : Nat} : ∀ {ob : List Nat} {k k1 u u1 : Nat}, Lv F kd vl ps dp T c σ τ t k u ob → k ≤ k1 → u ≤ u1 → u ≤ t → (∀ j, k < j → j ≤ k1 → ob.length ≤ dp j) → (u = t → QB F kd vl ps dp T c k k1 ob.length) → Lv F kd vl ps dp T c σ τ t k1 u1 ob
  | [], _, _, _, _, _, _, _, _, _, _ => trivial
  | d :: r, k, k1, u, u1, q, hk, hu, hut, hj, hq => by
    obtain ⟨⟨q1, q1', q1'', q1c⟩, q2, rr, ta, q3, q4, q5, q6, q7, q8, q9⟩ := q
    refine ⟨⟨by omega, q1', q1'', fun j h1 h2 => ?_⟩, q2, rr, ta, q3, q4, q5, q6, by omega, fun z => (q8 z).trans (hq (by omega)), q9⟩
    by_cases z : j ≤ k
    · exact q1c j h1 z
    · have : r.length + 1 ≤ dp j := hj j (by omega) h2
      omega
/-- how both stand before tell k, with t tells done -/
def RS (F : Nat) (kd vl pl : Nat → Nat) (e : Nat) (ps dp : Nat → Nat) (T c : Nat) (t k : Nat) (ob : List Nat) (σ τ : St) : Prop := PM F kd vl ps dp T c τ ∧ TkD kd vl pl e σ ∧ σ.1 26 = nI (ps k) ∧ σ.1 27 = nI ob.length ∧ ob.length = dp k ∧ k ≤ T ∧ Lv F kd vl ps dp T c σ τ t k t ob
def cnt (f : Nat → Int32) (t : Nat) : Nat → Nat
  | 0 => 0
  | n + 1 => cnt f t n + (if f n = nI t then 0 else 1)
theorem cnt_cong {f g : Nat → Int32} {t : Nat} : ∀ {n}, (∀ l, l < n → f l = g l) → cnt f t n = cnt g t n
  | 0, _ => rfl
  | n + 1, h => by
    show cnt f t n + _ = cnt g t n + _
    rw [cnt_cong (fun l hl => h l (by omega)), h n (by omega)]
theorem d_enter0 (Ev : EnvP F kd vl pl e ps dp T) {σ τ : St} (D : TkD kd vl pl e σ) (P : PM F kd vl ps dp T c τ) {k x : Nat} (M : Mate kd ps dp (τ.2.1 11) k x) (hx : x < T) (h26 : σ.1 26 = nI (ps k)) (h0 : vl (ps k + 1) = 0) (t : Int32) : f_X4_enter F σ t = some (ss σ 26 (nI (ps (x + 1)))) := by
  have hb := d_behind Ev D P M hx h26
  obtain ⟨m1', -⟩ := M
  have hT := Ev.2.2.2.1
  have hT4 := Ev.2.2.2.2.1
  have l2 := ps_le P (k := k) (T - k) (by omega)
  rw [show k + (T - k) = T by omega] at l2
  have wn := d_numberAt (F := F) Ev.1 D (k := ps k + 1) (by omega)
  rw [if_pos (show ps k + 1 ≤ e by omega), h0] at wn
  unfold f_X4_enter
  simp (disch := omega) only [↓bnd_i, ↓cal_s, ↓cal_n, ↓cal2_s, ↓cal2_n, cal_s, cal2_s, ↓reduceIte, fa_lit, m1_lit, m2_lit, m1_lt, m2_lt, m1_eq, m2_eq, m1_le, m2_le, le_m1, le_m2, lt_m1, lt_m2, m12, m21, m1_m1, n_lt, n_le, n_eq, lt_t, lt_f, le_t, le_f, eq_t, eq_f, n_cl, inb_ok, n_add, pk_mul, pk_sub, n_rem, n_div, n_dec, n_mx, n_mn, eq_m1, eq_m2, ss_same, ss_ne, ss_r, ss_l, sr_f, sr_l, sr_same, sr_ne, sw_f, sw_l, sw_at, sw_ne, pk_us, pk_un, bI_t, bI_f, not_true_eq_false, not_false_eq_true, eq_self, and_true, true_and, and_false, false_and, or_true, true_or, or_false, false_or, decide_true, decide_false, Bool.false_eq_true, Bool.true_eq_false, ↓cal_w (wn), wn, ↓cal_w (hb), hb, h26]
theorem d_enter1 (Ev : EnvP F kd vl pl e ps dp T) {σ τ : St} (D : TkD kd vl pl e σ) (P : PM F kd vl ps dp T c τ) {k dd m : Nat} (hk : k < T) (h26 : σ.1 26 = nI (ps k)) (h27 : σ.1 27 = nI dd) (hd : dd < 3) (e3 : ps (k + 1) = ps k + 3) (h0 : vl (ps k + 1) = m + 1) (t : Int32) : f_X4_enter F σ t = some (ss (sr (sr (sr (ss σ 26 (nI (ps (k + 1)))) 29 dd (nI (ps (k + 1)))) 30 dd (nI 0)) 31 dd t) 27 (nI (dd + 1))) := by
  have hT := Ev.2.2.2.1
  have hT4 := Ev.2.2.2.2.1
  have l2 := ps_le P (k := k) (T - k) (by omega)
  rw [show k + (T - k) = T by omega] at l2
  have wn := d_numberAt (F := F) Ev.1 D (k := ps k + 1) (by omega)
  have v4 := Ev.1.2.2.2.1 (ps k + 1) (by omega)
  rw [if_pos (show ps k + 1 ≤ e by omega), h0] at wn
  unfold f_X4_enter
  simp (disch := omega) only [↓bnd_i, ↓cal_s, ↓cal_n, ↓cal2_s, ↓cal2_n, cal_s, cal2_s, ↓reduceIte, fa_lit, m1_lit, m2_lit, m1_lt, m2_lt, m1_eq, m2_eq, m1_le, m2_le, le_m1, le_m2, lt_m1, lt_m2, m12, m21, m1_m1, n_lt, n_le, n_eq, lt_t, lt_f, le_t, le_f, eq_t, eq_f, n_cl, inb_ok, n_add, pk_mul, pk_sub, n_rem, n_div, n_dec, n_mx, n_mn, eq_m1, eq_m2, ss_same, ss_ne, ss_r, ss_l, sr_f, sr_l, sr_same, sr_ne, sw_f, sw_l, sw_at, sw_ne, pk_us, pk_un, bI_t, bI_f, not_true_eq_false, not_false_eq_true, eq_self, and_true, true_and, and_false, false_and, or_true, true_or, or_false, false_or, decide_true, decide_false, Bool.false_eq_true, Bool.true_eq_false, ↓cal_w (wn), wn, h26, h27, e3]
theorem d_turnL (Ev : EnvP F kd vl pl e ps dp T) {σ : St} (D : TkD kd vl pl e σ) {k d dd t ta rr : Nat} (hd : dd < 3) (h26 : σ.1 26 = nI (ps k)) (hk : ps k + 2 ≤ 402) (h27 : σ.1 27 = nI (dd + 1)) (e2 : ps (k + 1) = ps k + 2) (e3 : ps (d + 1) = ps d + 3) (hde : ps d + 3 ≤ e) (ht : t < 1000) (hta : ta < 1000) (h29 : σ.2.1 29 dd = nI (ps (d + 1))) (h30 : σ.2.1 30 dd = nI rr) (h31 : σ.2.1 31 dd = nI ta) (hr : rr < 10000) (hc : ta = t ∨ vl (ps d + 1) ≤ rr + 1) : f_X4_turn F σ (nI t) = some (ss (ss (sr σ 30 dd (nI (rr + 1))) 27 (nI dd)) 26 (nI (ps (k + 1)))) := by
  have e1 := Ev.1.1
  have f1 : FrW σ (sr σ 30 dd (nI (rr + 1))) := (FrW.refl σ).sr (by omega)
  have wn := d_numberAt (F := F) Ev.1 (D.frW f1) (k := ps d + 1) (by omega)
  have v4 := Ev.1.2.2.2.1 (ps d + 1) (by omega)
  rw [if_pos (show ps d + 1 ≤ e by omega)] at wn
  have sB : nI (dd + 1) - (1 : Int32) = nI dd := n_sub1 dd
  have sC : nI (ps d + 3) - (2 : Int32) = nI (ps d + 1) := by
    show nI (ps d + 3) - nI 2 = _
    rw [pk_sub (by omega)]; rfl
  have nd : dd + 1 - 1 = dd := rfl
  have nq : ps d + 3 - 2 = ps d + 1 := rfl
  rw [e3] at h29
  unfold f_X4_turn
  rw [h27, sB]
  by_cases q : ta = t
  · subst q
    simp (disch := omega) only [↓bnd_i, ↓cal_s, ↓cal_n, ↓cal2_s, ↓cal2_n, cal_s, cal2_s, ↓reduceIte, fa_lit, m1_lit, m2_lit, m1_lt, m2_lt, m1_eq, m2_eq, m1_le, m2_le, le_m1, le_m2, lt_m1, lt_m2, m12, m21, m1_m1, n_lt, n_le, n_eq, lt_t, lt_f, le_t, le_f, eq_t, eq_f, n_cl, inb_ok, n_add, pk_mul, pk_sub, n_rem, n_div, n_dec, n_mx, n_mn, eq_m1, eq_m2, ss_same, ss_ne, ss_r, ss_l, sr_f, sr_l, sr_same, sr_ne, sw_f, sw_l, sw_at, sw_ne, pk_us, pk_un, bI_t, bI_f, not_true_eq_false, not_false_eq_true, eq_self, and_true, true_and, and_false, false_and, or_true, true_or, or_false, false_or, decide_true, decide_false, Bool.false_eq_true, Bool.true_eq_false, h30, h31, f_X4_turn_52, f_X4_turn_81, h27, nd, nq, h26, e2]
  · have q2 : vl (ps d + 1) ≤ rr + 1 := by omega
    simp (disch := omega) only [↓bnd_i, ↓cal_s, ↓cal_n, ↓cal2_s, ↓cal2_n, cal_s, cal2_s, ↓reduceIte, fa_lit, m1_lit, m2_lit, m1_lt, m2_lt, m1_eq, m2_eq, m1_le, m2_le, le_m1, le_m2, lt_m1, lt_m2, m12, m21, m1_m1, n_lt, n_le, n_eq, lt_t, lt_f, le_t, le_f, eq_t, eq_f, n_cl, inb_ok, n_add, pk_mul, pk_sub, n_rem, n_div, n_dec, n_mx, n_mn, eq_m1, eq_m2, ss_same, ss_ne, ss_r, ss_l, sr_f, sr_l, sr_same, sr_ne, sw_f, sw_l, sw_at, sw_ne, pk_us, pk_un, bI_t, bI_f, not_true_eq_false, not_false_eq_true, eq_self, and_true, true_and, and_false, false_and, or_true, true_or, or_false, false_or, decide_true, decide_false, Bool.false_eq_true, Bool.true_eq_false, ↓cal_w (wn), wn, h30, h31, h29, f_X4_turn_52, f_X4_turn_81, h27, nd, nq, h26, e2]
theorem d_turnB (Ev : EnvP F kd vl pl e ps dp T) {σ : St} (D : TkD kd vl pl e σ) {d dd t ta rr : Nat} (hd : dd < 3) (h27 : σ.1 27 = nI (dd + 1)) (e3 : ps (d + 1) = ps d + 3) (hde : ps d + 3 ≤ e) (ht : t < 1000) (hta : ta < 1000) (h29 : σ.2.1 29 dd = nI (ps (d + 1))) (h30 : σ.2.1 30 dd = nI rr) (h31 : σ.2.1 31 dd = nI ta) (hr : rr < 10000) (h1 : ta ≠ t) (h2 : rr + 1 < vl (ps d + 1)) : f_X4_turn F σ (nI t) = some (ss (sr (sr σ 30 dd (nI (rr + 1))) 31 dd (nI t)) 26 (nI (ps (d + 1)))) := by
  have e1 := Ev.1.1
  have f1 : FrW σ (sr σ 30 dd (nI (rr + 1))) := (FrW.refl σ).sr (by omega)
  have wn := d_numberAt (F := F) Ev.1 (D.frW f1) (k := ps d + 1) (by omega)
  have v4 := Ev.1.2.2.2.1 (ps d + 1) (by omega)
  rw [if_pos (show ps d + 1 ≤ e by omega)] at wn
  have sB : nI (dd + 1) - (1 : Int32) = nI dd := n_sub1 dd
  have sC : nI (ps d + 3) - (2 : Int32) = nI (ps d + 1) := by
    show nI (ps d + 3) - nI 2 = _
    rw [pk_sub (by omega)]; rfl
  have nd : dd + 1 - 1 = dd := rfl
  have nq : ps d + 3 - 2 = ps d + 1 := rfl
  rw [e3] at h29
  rw [e3]
  unfold f_X4_turn
  rw [h27, sB]
  simp (disch := omega) only [↓bnd_i, ↓cal_s, ↓cal_n, ↓cal2_s, ↓cal2_n, cal_s, cal2_s, ↓reduceIte, fa_lit, m1_lit, m2_lit, m1_lt, m2_lt, m1_eq, m2_eq, m1_le, m2_le, le_m1, le_m2, lt_m1, lt_m2, m12, m21, m1_m1, n_lt, n_le, n_eq, lt_t, lt_f, le_t, le_f, eq_t, eq_f, n_cl, inb_ok, n_add, pk_mul, pk_sub, n_rem, n_div, n_dec, n_mx, n_mn, eq_m1, eq_m2, ss_same, ss_ne, ss_r, ss_l, sr_f, sr_l, sr_same, sr_ne, sw_f, sw_l, sw_at, sw_ne, pk_us, pk_un, bI_t, bI_f, not_true_eq_false, not_false_eq_true, eq_self, and_true, true_and, and_false, false_and, or_true, true_or, or_false, false_or, decide_true, decide_false, Bool.false_eq_true, Bool.true_eq_false, ↓cal_w (wn), wn, h30, h31, h29, f_X4_turn_52, f_X4_turn_81, h27, nd, nq]
end
