/-! PURE: from one tell to the next, on both sides -/
section
variable {F : Nat} {kd vl pl : Nat → Nat} {e : Nat} {ps dp : Nat → Nat} {T c : Nat}
def EnvP (F : Nat) (kd vl pl : Nat → Nat) (e : Nat) (ps dp : Nat → Nat) (T : Nat) : Prop := TkE kd vl pl e ∧ 1000 < F ∧ (∀ k, dp (k + 1) = if kd (ps k) = 12 then dp k + 1 else if kd (ps k) = 13 then dp k - 1 else dp k) ∧ ps T ≤ e ∧ ps T ≤ 400 ∧ kd (ps T) = 29 ∧ dp T = 0
theorem ps_le {τ : St} (P : PM F kd vl ps dp T c τ) {k : Nat} : ∀ g, k + g ≤ T → ps k + g ≤ ps (k + g)
  | 0, _ => Nat.le_refl _
  | g + 1, h => by
    have h1 := ps_le P (k := k) g (by omega)
    have h2 := (P.2.2.1 (k + g) (by omega)).2.2.1.1
    show ps k + (g + 1) ≤ ps (k + g + 1)
    omega
theorem mate_d {m m' : Nat → Int32} {d d' x : Nat} (h : Mate kd ps dp m d x) (h' : Mate kd ps dp m' d' x) : d = d' := by
  obtain ⟨a1, -, -, -, -, a6, a7⟩ := h
  obtain ⟨b1, -, -, -, -, b6, b7⟩ := h'
  rcases Nat.lt_trichotomy d d' with z | z | z
  · have := a7 d' z (by omega); omega
  · exact z
  · have := b7 d z (by omega); omega
theorem mate_x (Ev : EnvP F kd vl pl e ps dp T) {m m' : Nat → Int32} {d x x' : Nat} (h : Mate kd ps dp m d x) (h' : Mate kd ps dp m' d x') : x = x' := by
  obtain ⟨a1, -, a3, -, -, a6, a7⟩ := h
  obtain ⟨b1, -, b3, -, -, b6, b7⟩ := h'
  have q1 := Ev.2.2.1 x
  have q2 := Ev.2.2.1 x'
  rw [if_neg (by omega), if_pos a3] at q1
  rw [if_neg (by omega), if_pos b3] at q2
  rcases Nat.lt_trichotomy x x' with z | z | z
  · have := b7 (x + 1) (by omega) (by omega); omega
  · exact z
  · have := a7 (x' + 1) (by omega) (by omega); omega
/-- behind the end of a do -/
theorem b_step (Ev : EnvP F kd vl pl e ps dp T) {σ : St} (D : TkD kd vl pl e σ) {j C n : Nat} (hj : j ≤ e) (hC : C < 1000) (C' : Nat) (hC' : C' = if kd j = 12 then C + 1 else if kd j = 13 then C - 1 else C) : f_X4_behindEnd_7 F (n + 1) σ (nI C) (nI j) = if C' = 0 ∧ (kd j ≠ 13 ∨ C = 1) then some (nI (j + 2)) else if kd j = 13 ∧ C = 0 then f_X4_behindEnd_7 F (n + 1) σ (nI C) (nI j) else f_X4_behindEnd_7 F n σ (nI C') (nI (j + 1)) := by
  have E := Ev.1
  obtain ⟨e1, e2, e3, e4, e5, e6⟩ := Ev.1
  have wk := d_kindAt (F := F) E D hj
  have kle : kd j ≤ 30 := by
    by_cases q : j = e
    · rw [q]; rcases e3 with z | z <;> omega
    · have := e2 j (by omega); omega
  have h19 := D.1
  by_cases k12 : kd j = 12
  · rw [if_pos k12] at hC'
    rw [if_neg (by omega), if_neg (by omega), f_X4_behindEnd_7, hC']
    rw [k12] at wk
    simp (disch := omega) only [↓bnd_i, ↓cal_s, ↓cal_n, ↓cal2_s, ↓cal2_n, cal_s, cal2_s, ↓reduceIte, fa_lit, m1_lit, m2_lit, m1_lt, m2_lt, m1_eq, m2_eq, m1_le, m2_le, le_m1, le_m2, lt_m1, lt_m2, m12, m21, m1_m1, n_lt, n_le, n_eq, lt_t, lt_f, le_t, le_f, eq_t, eq_f, n_cl, inb_ok, n_add, pk_mul, pk_sub, n_rem, n_div, n_dec, n_mx, n_mn, eq_m1, eq_m2, ss_same, ss_ne, ss_r, ss_l, sr_f, sr_l, sr_same, sr_ne, sw_f, sw_l, sw_at, sw_ne, pk_us, pk_un, bI_t, bI_f, not_true_eq_false, not_false_eq_true, eq_self, and_true, true_and, and_false, false_and, or_true, true_or, or_false, false_or, decide_true, decide_false, Bool.false_eq_true, Bool.true_eq_false, ↓cal_w (wk), wk, h19, f_X4_behindEnd_39, f_X4_behindEnd_53]
    rfl
  · rw [if_neg k12] at hC'
    by_cases k13 : kd j = 13
    · rw [if_pos k13] at hC'
      by_cases c0 : C = 0
      · rw [if_neg (by omega), if_pos ⟨k13, c0⟩]
      · obtain ⟨C1, rfl⟩ : ∃ C1, C = C1 + 1 := ⟨C - 1, by omega⟩
        rw [k13] at wk
        by_cases c1 : C1 = 0
        · rw [if_pos ⟨by omega, Or.inr (by omega)⟩, f_X4_behindEnd_7]
          subst c1
          simp (disch := omega) only [↓bnd_i, ↓cal_s, ↓cal_n, ↓cal2_s, ↓cal2_n, cal_s, cal2_s, ↓reduceIte, fa_lit, m1_lit, m2_lit, m1_lt, m2_lt, m1_eq, m2_eq, m1_le, m2_le, le_m1, le_m2, lt_m1, lt_m2, m12, m21, m1_m1, n_lt, n_le, n_eq, lt_t, lt_f, le_t, le_f, eq_t, eq_f, n_cl, inb_ok, n_add, pk_mul, pk_sub, n_rem, n_div, n_dec, n_mx, n_mn, eq_m1, eq_m2, ss_same, ss_ne, ss_r, ss_l, sr_f, sr_l, sr_same, sr_ne, sw_f, sw_l, sw_at, sw_ne, pk_us, pk_un, bI_t, bI_f, not_true_eq_false, not_false_eq_true, eq_self, and_true, true_and, and_false, false_and, or_true, true_or, or_false, false_or, decide_true, decide_false, Bool.false_eq_true, Bool.true_eq_false, ↓cal_w (wk), wk, h19, f_X4_behindEnd_39, f_X4_behindEnd_53]
        · rw [if_neg (by omega), if_neg (by omega), f_X4_behindEnd_7, hC']
          simp (disch := omega) only [↓bnd_i, ↓cal_s, ↓cal_n, ↓cal2_s, ↓cal2_n, cal_s, cal2_s, ↓reduceIte, fa_lit, m1_lit, m2_lit, m1_lt, m2_lt, m1_eq, m2_eq, m1_le, m2_le, le_m1, le_m2, lt_m1, lt_m2, m12, m21, m1_m1, n_lt, n_le, n_eq, lt_t, lt_f, le_t, le_f, eq_t, eq_f, n_cl, inb_ok, n_add, pk_mul, pk_sub, n_rem, n_div, n_dec, n_mx, n_mn, eq_m1, eq_m2, ss_same, ss_ne, ss_r, ss_l, sr_f, sr_l, sr_same, sr_ne, sw_f, sw_l, sw_at, sw_ne, pk_us, pk_un, bI_t, bI_f, not_true_eq_false, not_false_eq_true, eq_self, and_true, true_and, and_false, false_and, or_true, true_or, or_false, false_or, decide_true, decide_false, Bool.false_eq_true, Bool.true_eq_false, ↓cal_w (wk), wk, h19, f_X4_behindEnd_39, f_X4_behindEnd_53]
    · rw [if_neg k13] at hC'
      subst hC'
      by_cases c0 : C' = 0
      · rw [if_pos (show C' = 0 ∧ (kd j ≠ 13 ∨ C' = 1) from ⟨c0, Or.inl k13⟩), f_X4_behindEnd_7]
        subst c0
        simp (disch := omega) only [↓bnd_i, ↓cal_s, ↓cal_n, ↓cal2_s, ↓cal2_n, cal_s, cal2_s, ↓reduceIte, fa_lit, m1_lit, m2_lit, m1_lt, m2_lt, m1_eq, m2_eq, m1_le, m2_le, le_m1, le_m2, lt_m1, lt_m2, m12, m21, m1_m1, n_lt, n_le, n_eq, lt_t, lt_f, le_t, le_f, eq_t, eq_f, n_cl, inb_ok, n_add, pk_mul, pk_sub, n_rem, n_div, n_dec, n_mx, n_mn, eq_m1, eq_m2, ss_same, ss_ne, ss_r, ss_l, sr_f, sr_l, sr_same, sr_ne, sw_f, sw_l, sw_at, sw_ne, pk_us, pk_un, bI_t, bI_f, not_true_eq_false, not_false_eq_true, eq_self, and_true, true_and, and_false, false_and, or_true, true_or, or_false, false_or, decide_true, decide_false, Bool.false_eq_true, Bool.true_eq_false, ↓cal_w (wk), wk, h19, f_X4_behindEnd_39, f_X4_behindEnd_53]
      · rw [if_neg (show ¬ (C' = 0 ∧ (kd j ≠ 13 ∨ C' = 1)) from fun q => c0 q.1), if_neg (show ¬ (kd j = 13 ∧ C' = 0) from fun q => c0 q.2), f_X4_behindEnd_7]
        simp (disch := omega) only [↓bnd_i, ↓cal_s, ↓cal_n, ↓cal2_s, ↓cal2_n, cal_s, cal2_s, ↓reduceIte, fa_lit, m1_lit, m2_lit, m1_lt, m2_lt, m1_eq, m2_eq, m1_le, m2_le, le_m1, le_m2, lt_m1, lt_m2, m12, m21, m1_m1, n_lt, n_le, n_eq, lt_t, lt_f, le_t, le_f, eq_t, eq_f, n_cl, inb_ok, n_add, pk_mul, pk_sub, n_rem, n_div, n_dec, n_mx, n_mn, eq_m1, eq_m2, ss_same, ss_ne, ss_r, ss_l, sr_f, sr_l, sr_same, sr_ne, sw_f, sw_l, sw_at, sw_ne, pk_us, pk_un, bI_t, bI_f, not_true_eq_false, not_false_eq_true, eq_self, and_true, true_and, and_false, false_and, or_true, true_or, or_false, false_or, decide_true, decide_false, Bool.false_eq_true, Bool.true_eq_false, ↓cal_w (wk), wk, h19, f_X4_behindEnd_39, f_X4_behindEnd_53]
        rfl
/-- inside one tell -/
theorem b_in (Ev : EnvP F kd vl pl e ps dp T) {σ : St} (D : TkD kd vl pl e σ) {b C n : Nat} (hC : 1 ≤ C) (hC2 : C < 1000) (hb : b ≤ e) : ∀ g j, j + g = b → (∀ i, j ≤ i → i < b → 14 ≤ kd i) → f_X4_behindEnd_7 F (n + g) σ (nI C) (nI j) = f_X4_behindEnd_7 F n σ (nI C) (nI b) := by
  intro g
  induction g with
  | zero => intro j h _; rw [← h]; rfl
  | succ g ih =>
    intro j h hi
    have k14 := hi j (Nat.le_refl _) (by omega)
    rw [← Nat.add_assoc, b_step Ev D (j := j) (C := C) (by omega) hC2 C (by rw [if_neg (by omega), if_neg (by omega)]), if_neg (by omega), if_neg (by omega)]
    exact ih (j + 1) (by omega) (fun i h1 h2 => hi i (by omega) h2)
theorem b_k (Ev : EnvP F kd vl pl e ps dp T) {σ τ : St} (D : TkD kd vl pl e σ) (P : PM F kd vl ps dp T c τ) {d x : Nat} (hx : x < T) (hd : d < x) (h1 : dp x = dp d + 1) (hlt : ∀ j, d < j → j ≤ x → dp d < dp j) : ∀ g k, k + g = x → d < k → ∀ n, f_X4_behindEnd_7 F (n + (ps x - ps k)) σ (nI (dp k - dp d)) (nI (ps k)) = f_X4_behindEnd_7 F n σ (nI 1) (nI (ps x)) := by
  intro g
  induction g with
  | zero =>
    intro k h _ n
    have : k = x := by omega
    subst this
    rw [show ps k - ps k = 0 by omega, show dp k - dp d = 1 by omega]
    rfl
  | succ g ih =>
    intro k h hk n
    obtain ⟨-, p2, ⟨p3, p3'⟩, p4, -, -, -⟩ := P.2.2.1 k (by omega)
    obtain ⟨-, -, -, p4', -, -, -⟩ := P.2.2.1 (k + 1) (by omega)
    have l1 := ps_le P (k := k + 1) g (by omega)
    have l2 := ps_le P (k := x) (T - x) (by omega)
    have ex : k + 1 + g = x := by omega
    have eT : x + (T - x) = T := by omega
    rw [ex] at l1
    rw [eT] at l2
    have hT := Ev.2.2.2.1
    have c1 := hlt k hk (by omega)
    have c2 := hlt (k + 1) (by omega) (by omega)
    have hdk := Ev.2.2.1 k
    obtain ⟨a, ha⟩ : ∃ a, ps (k + 1) = ps k + 1 + a := ⟨ps (k + 1) - (ps k + 1), by omega⟩
    have es : n + (ps x - ps k) = n + (ps x - ps (k + 1)) + a + 1 := by omega
    have hCk : dp (k + 1) - dp d = if kd (ps k) = 12 then dp k - dp d + 1 else if kd (ps k) = 13 then dp k - dp d - 1 else dp k - dp d := by
      by_cases z : kd (ps k) = 12
      · rw [if_pos z] at hdk ⊢; omega
      · rw [if_neg z] at hdk ⊢
        by_cases y : kd (ps k) = 13
        · rw [if_pos y] at hdk ⊢; omega
        · rw [if_neg y] at hdk ⊢; omega
    rw [es, b_step Ev D (j := ps k) (C := dp k - dp d) (by omega) (by omega) (dp (k + 1) - dp d) hCk, if_neg (by omega), if_neg (by omega), b_in Ev D (b := ps (k + 1)) (by omega) (by omega) (by omega) a (ps k + 1) (by omega) (fun i h1 h2 => p3' i (by omega) h2)]
    exact ih (k + 1) (by omega) (by omega) n
theorem d_behind (Ev : EnvP F kd vl pl e ps dp T) {σ τ : St} (D : TkD kd vl pl e σ) (P : PM F kd vl ps dp T c τ) {d x : Nat} (M : Mate kd ps dp (τ.2.1 11) d x) (hx : x < T) (h26 : σ.1 26 = nI (ps d)) : f_X4_behindEnd F σ = some (nI (ps (x + 1))) := by
  obtain ⟨m1', m2', m3, m4, m5, m6, m7⟩ := M
  have hT := Ev.2.2.2.1
  have hT4 := Ev.2.2.2.2.1
  have hF := Ev.2.1
  obtain ⟨-, p2, ⟨p3, p3'⟩, p4, p5, -, -⟩ := P.2.2.1 d (by omega)
  obtain ⟨-, y2, ⟨y3, y3'⟩, y4, y5, y6, -⟩ := P.2.2.1 x (by omega)
  have e2 := (y6 m3).2
  have e1 := (p5 m2').2.1
  have l2 := ps_le P (k := x) (T - x) (by omega)
  rw [show x + (T - x) = T by omega] at l2
  have l1 := ps_le P (k := d + 1) (x - (d + 1)) (by omega)
  rw [show d + 1 + (x - (d + 1)) = x by omega] at l1
  have hdd := Ev.2.2.1 d
  rw [if_pos m2'] at hdd
  unfold f_X4_behindEnd
  rw [h26, bnd_i]
  obtain ⟨n, hn⟩ : ∃ n, F = n + 1 + (ps x - ps (d + 1)) + 2 + 1 := ⟨F - 4 - (ps x - ps (d + 1)), by omega⟩
  show f_X4_behindEnd_7 F F σ (nI 0) (nI (ps d)) = _
  have b1 := b_step (n := n + 1 + (ps x - ps (d + 1)) + 2) Ev D (j := ps d) (C := 0) (by omega) (by omega) 1 (by rw [if_pos m2'])
  rw [if_neg (by omega), if_neg (by omega)] at b1
  have b2 := b_in (n := n + 1 + (ps x - ps (d + 1))) Ev D (C := 1) (b := ps (d + 1)) (by omega) (by omega) (by omega) 2 (ps d + 1) (by omega) (fun i h1 h2 => p3' i (by omega) h2)
  have b3 := b_k Ev D P hx m1' m6 m7 (x - (d + 1)) (d + 1) (by omega) (by omega) (n + 1)
  rw [show dp (d + 1) - dp d = 1 by omega] at b3
  have b4 := b_step (n := n) Ev D (j := ps x) (C := 1) (by omega) (by omega) 0 (by rw [if_neg (by omega), if_pos m3])
  rw [if_pos ⟨rfl, Or.inr rfl⟩] at b4
  have : f_X4_behindEnd_7 F (n + 1 + (ps x - ps (d + 1)) + 2 + 1) σ (nI 0) (nI (ps d)) = some (nI (ps (x + 1))) := by rw [b1, b2, b3, b4, e2]
  rw [← hn] at this
  exact this
end
