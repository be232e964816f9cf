/-! PURE: the check of a text, on both sides -/
def psF (F : Nat) (kd vl : Nat → Nat) (a0 : Nat) : Nat → Nat
  | 0 => a0
  | k + 1 => (tO F kd vl (psF F kd vl a0 k)).2
def dpF (kd ps : Nat → Nat) : Nat → Nat
  | 0 => 0
  | k + 1 => if kd (ps k) = 12 then dpF kd ps k + 1 else if kd (ps k) = 13 then dpF kd ps k - 1 else dpF kd ps k
section
variable {F : Nat} {kd vl pl : Nat → Nat} {e : Nat}
theorem d_58 (E : TkE kd vl pl e) {σ : St} (D : TkD kd vl pl e σ) {a : Nat} (h1 : a ≤ e) (h2 : a ≤ 400) (h20 : σ.1 20 = nI a) : ∃ r σ', f_X1_checkHead_58 F σ = some (r, σ') ∧ FrG σ σ' ∧ ((r = nI 0 ∧ kd a = 1 ∧ (hO kd a).1 ≠ 0 ∧ σ'.1 21 = nI (hO kd a).1 ∧ σ'.1 22 = nI (pl (hO kd a).2)) ∨ (r = nI 1 ∧ ∃ b, ((kd a ≠ 1 ∧ b = a ∧ σ'.1 24 = σ.1 24) ∨ (kd a = 1 ∧ (hO kd a).1 = 0 ∧ b = a + 3 ∧ σ'.1 24 = nI (vl (a + 1)))) ∧ σ'.1 20 = nI b ∧ σ'.1 25 = nI b ∧ σ'.1 21 = σ.1 21 ∧ σ'.1 22 = σ.1 22 ∧ σ'.1 23 = σ.1 23)) := by
  have E' := E
  obtain ⟨e1, e2, e3, e4, e5, e6⟩ := E'
  have wk := d_kindAt (F := F) E D h1
  have kle : kd a ≤ 30 := by
    by_cases q : a = e
    · rw [q]; rcases e3 with z | z <;> omega
    · have := e2 a (by omega); omega
  by_cases k1 : kd a = 1
  · have hae : a < e := by
      by_cases z : a = e
      · rw [z] at k1; rcases e3 with y | y <;> omega
      · omega
    have wn := d_numberAt (F := F) E D (k := a + 1) (by omega)
    rw [if_pos (show a + 1 ≤ e by omega)] at wn
    have f1 : FrG σ (ss σ 24 (nI (vl (a + 1)))) := (FrG.refl σ).ss (by omega) (by omega)
    obtain ⟨σ1, q1, q2⟩ := d_hd (F := F) E (D.fr f1) hae h2 (by rw [ss_ne (by omega)]; exact h20) (fun t13 => some (nI 1, ss t13 25 (t13.1 20)))
    rw [k1] at wk
    have h58 : f_X1_checkHead_58 F σ = if (hO kd a).1 = 0 then some (nI 1, ss σ1 25 (σ1.1 20)) else some (nI 0, σ1) := by
      rw [← q2]
      unfold f_X1_checkHead_58
      simp (disch := omega) only [↓bnd_i, ↓cal_s, ↓cal_n, ↓cal2_s, ↓cal2_n, cal_s, cal2_s, ↓reduceIte, fa_lit, m1_lit, m2_lit, m1_lt, m2_lt, m1_eq, m2_eq, m1_le, m2_le, le_m1, le_m2, lt_m1, lt_m2, m12, m21, m1_m1, n_lt, n_le, n_eq, lt_t, lt_f, le_t, le_f, eq_t, eq_f, n_cl, inb_ok, n_add, pk_mul, pk_sub, n_rem, n_div, n_dec, n_mx, n_mn, eq_m1, eq_m2, ss_same, ss_ne, ss_r, ss_l, sr_f, sr_l, sr_same, sr_ne, sw_f, sw_l, sw_at, sw_ne, pk_us, pk_un, bI_t, bI_f, not_true_eq_false, not_false_eq_true, eq_self, and_true, true_and, and_false, false_and, or_true, true_or, or_false, false_or, decide_true, decide_false, Bool.false_eq_true, Bool.true_eq_false, ↓cal_w (wk), wk, ↓cal_w (wn), wn, h20]
      rfl
    by_cases c : (hO kd a).1 = 0
    · rw [if_pos c] at h58
      have es := q1.1 c
      have hb := (hO_1 c).2.2.2.2.2
      refine ⟨_, _, h58, (f1.trans q1.fr).ss (by omega) (by omega), Or.inr ⟨rfl, a + 3, Or.inr ⟨k1, c, rfl, ?_⟩, ?_, ?_, ?_, ?_, ?_⟩⟩
      · rw [ss_ne (by omega), es, ss_ne (by omega), ss_same]
      · rw [ss_ne (by omega), es, ss_same, hb]
      · rw [ss_same, es, ss_same, hb]
      · rw [ss_ne (by omega), es, ss_ne (by omega), ss_ne (by omega)]
      · rw [ss_ne (by omega), es, ss_ne (by omega), ss_ne (by omega)]
      · rw [ss_ne (by omega), es, ss_ne (by omega), ss_ne (by omega)]
    · rw [if_neg c] at h58
      obtain ⟨x1, x2, x3⟩ := q1.2 c
      exact ⟨_, _, h58, f1.trans x3, Or.inl ⟨rfl, k1, c, x1, x2⟩⟩
  · refine ⟨nI 1, ss σ 25 (nI a), ?_, (FrG.refl σ).ss (by omega) (by omega), Or.inr ⟨rfl, a, Or.inl ⟨k1, rfl, ss_ne (by omega)⟩, by rw [ss_ne (by omega)]; exact h20, ss_same, ss_ne (by omega), ss_ne (by omega), ss_ne (by omega)⟩⟩
    unfold f_X1_checkHead_58
    simp (disch := omega) only [↓bnd_i, ↓cal_s, ↓cal_n, ↓cal2_s, ↓cal2_n, cal_s, cal2_s, ↓reduceIte, fa_lit, m1_lit, m2_lit, m1_lt, m2_lt, m1_eq, m2_eq, m1_le, m2_le, le_m1, le_m2, lt_m1, lt_m2, m12, m21, m1_m1, n_lt, n_le, n_eq, lt_t, lt_f, le_t, le_f, eq_t, eq_f, n_cl, inb_ok, n_add, pk_mul, pk_sub, n_rem, n_div, n_dec, n_mx, n_mn, eq_m1, eq_m2, ss_same, ss_ne, ss_r, ss_l, sr_f, sr_l, sr_same, sr_ne, sw_f, sw_l, sw_at, sw_ne, pk_us, pk_un, bI_t, bI_f, not_true_eq_false, not_false_eq_true, eq_self, and_true, true_and, and_false, false_and, or_true, true_or, or_false, false_or, decide_true, decide_false, Bool.false_eq_true, Bool.true_eq_false, ↓cal_w (wk), wk, h20]
/-- the head's outcome: a fault, or the sizes and where the tells begin -/
def HdR (kd vl pl : Nat → Nat) (x k P W b : Nat) (flt : Bool) : Prop :=
  (flt = true ∧ ((kd 0 = 0 ∧ (hO kd 0).1 ≠ 0 ∧ x = (hO kd 0).1 ∧ k = (hO kd 0).2) ∨ (kd 0 = 0 ∧ (hO kd 0).1 = 0 ∧ kd 3 = 1 ∧ (hO kd 3).1 ≠ 0 ∧ x = (hO kd 3).1 ∧ k = (hO kd 3).2) ∨ (kd 0 ≠ 0 ∧ kd 0 = 1 ∧ (hO kd 0).1 ≠ 0 ∧ x = (hO kd 0).1 ∧ k = (hO kd 0).2))) ∨
  (flt = false ∧ ((kd 0 = 0 ∧ (hO kd 0).1 = 0 ∧ kd 3 ≠ 1 ∧ P = vl 1 ∧ W = 4 ∧ b = 3) ∨ (kd 0 = 0 ∧ (hO kd 0).1 = 0 ∧ kd 3 = 1 ∧ (hO kd 3).1 = 0 ∧ P = vl 1 ∧ W = vl 4 ∧ b = 6) ∨ (kd 0 ≠ 0 ∧ kd 0 ≠ 1 ∧ P = 4 ∧ W = 4 ∧ b = 0) ∨ (kd 0 = 1 ∧ (hO kd 0).1 = 0 ∧ P = 4 ∧ W = vl 1 ∧ b = 3)))
theorem d_head (E : TkE kd vl pl e) {σ : St} (D : TkD kd vl pl e σ) (h20 : σ.1 20 = nI 0) (h23 : σ.1 23 = nI 4) (h24 : σ.1 24 = nI 4) : ∃ r σ' x k P W b flt, f_X1_checkHead F σ = some (r, σ') ∧ FrG σ σ' ∧ HdR kd vl pl x k P W b flt ∧ (flt = true → r = nI 0 ∧ σ'.1 21 = nI x ∧ σ'.1 22 = nI (pl k)) ∧ (flt = false → r = nI 1 ∧ σ'.1 20 = nI b ∧ σ'.1 25 = nI b ∧ σ'.1 21 = σ.1 21 ∧ σ'.1 22 = σ.1 22 ∧ σ'.1 23 = nI P ∧ σ'.1 24 = nI W) := by
  have E' := E
  obtain ⟨e1, e2, e3, e4, e5, e6⟩ := E'
  have wk := d_kindAt (F := F) E D (k := 0) (by omega)
  have kle : kd 0 ≤ 30 := by
    by_cases q : 0 = e
    · rw [q]; rcases e3 with z | z <;> omega
    · have := e2 0 (by omega); omega
  by_cases k0 : kd 0 = 0
  · have hae : 0 < e := by
      by_cases z : 0 = e
      · rw [← z] at e3; rcases e3 with y | y <;> omega
      · omega
    have wn := d_numberAt (F := F) E D (k := 1) (by omega)
    rw [if_pos (show 1 ≤ e by omega)] at wn
    have f1 : FrG σ (ss σ 23 (nI (vl 1))) := (FrG.refl σ).ss (by omega) (by omega)
    obtain ⟨σ1, q1, q2⟩ := d_hd (F := F) E (D.fr f1) hae (by omega) (by rw [ss_ne (by omega)]; exact h20) (f_X1_checkHead_58 F)
    rw [k0] at wk
    have hh : f_X1_checkHead F σ = if (hO kd 0).1 = 0 then f_X1_checkHead_58 F σ1 else some (nI 0, σ1) := by
      rw [← q2]
      unfold f_X1_checkHead
      simp (disch := omega) only [↓bnd_i, ↓cal_s, ↓cal_n, ↓cal2_s, ↓cal2_n, cal_s, cal2_s, ↓reduceIte, fa_lit, m1_lit, m2_lit, m1_lt, m2_lt, m1_eq, m2_eq, m1_le, m2_le, le_m1, le_m2, lt_m1, lt_m2, m12, m21, m1_m1, n_lt, n_le, n_eq, lt_t, lt_f, le_t, le_f, eq_t, eq_f, n_cl, inb_ok, n_add, pk_mul, pk_sub, n_rem, n_div, n_dec, n_mx, n_mn, eq_m1, eq_m2, ss_same, ss_ne, ss_r, ss_l, sr_f, sr_l, sr_same, sr_ne, sw_f, sw_l, sw_at, sw_ne, pk_us, pk_un, bI_t, bI_f, not_true_eq_false, not_false_eq_true, eq_self, and_true, true_and, and_false, false_and, or_true, true_or, or_false, false_or, decide_true, decide_false, Bool.false_eq_true, Bool.true_eq_false, ↓cal_w (wk), wk, ↓cal_w (wn), wn, h20]
      rfl
    by_cases c : (hO kd 0).1 = 0
    · rw [if_pos c] at hh
      have es := q1.1 c
      have h1 := hO_1 c
      have hg := hO_g E hae (show 0 ≤ 400 by omega)
      have hb : (hO kd 0).2 = 3 := h1.2.2.2.2.2
      obtain ⟨r, σ', g1, g2, g3⟩ := d_58 (F := F) E ((D.fr f1).fr q1.fr) (a := 3) (by rw [← hb]; exact hg.2.1) (by omega) (by rw [es, ss_same, hb])
      have e23 : σ1.1 23 = nI (vl 1) := by rw [es, ss_ne (by omega), ss_same]
      have e24 : σ1.1 24 = nI 4 := by rw [es, ss_ne (by omega), ss_ne (by omega)]; exact h24
      have e21 : σ1.1 21 = σ.1 21 := by rw [es, ss_ne (by omega), ss_ne (by omega)]
      have e22 : σ1.1 22 = σ.1 22 := by rw [es, ss_ne (by omega), ss_ne (by omega)]
      rcases g3 with ⟨z1, z2, z3, z4, z5⟩ | ⟨z1, b, z2, z3, z4, z5, z6, z7⟩
      · exact ⟨r, σ', (hO kd 3).1, (hO kd 3).2, 0, 0, 0, true, by rw [hh]; exact g1, (f1.trans q1.fr).trans g2, Or.inl ⟨rfl, Or.inr (Or.inl ⟨k0, c, z2, z3, rfl, rfl⟩)⟩, fun _ => ⟨z1, z4, z5⟩, fun q => by cases q⟩
      · rcases z2 with ⟨y1, y2, y3⟩ | ⟨y1, y2, y3, y4⟩
        · exact ⟨r, σ', 0, 0, vl 1, 4, 3, false, by rw [hh]; exact g1, (f1.trans q1.fr).trans g2, Or.inr ⟨rfl, Or.inl ⟨k0, c, y1, rfl, rfl, rfl⟩⟩, fun q => (by cases q), fun _ => ⟨z1, by rw [z3, y2], by rw [z4, y2], by rw [z5, e21], by rw [z6, e22], by rw [z7, e23], by rw [y3, e24]⟩⟩
        · exact ⟨r, σ', 0, 0, vl 1, vl 4, 6, false, by rw [hh]; exact g1, (f1.trans q1.fr).trans g2, Or.inr ⟨rfl, Or.inr (Or.inl ⟨k0, c, y1, y2, rfl, rfl, rfl⟩)⟩, fun q => (by cases q), fun _ => ⟨z1, by rw [z3, y3], by rw [z4, y3], by rw [z5, e21], by rw [z6, e22], by rw [z7, e23], y4⟩⟩
    · rw [if_neg c] at hh
      obtain ⟨x1, x2, x3⟩ := q1.2 c
      exact ⟨_, σ1, (hO kd 0).1, (hO kd 0).2, 0, 0, 0, true, hh, f1.trans x3, Or.inl ⟨rfl, Or.inl ⟨k0, c, rfl, rfl⟩⟩, fun _ => ⟨rfl, x1, x2⟩, fun q => by cases q⟩
  · have hh : f_X1_checkHead F σ = f_X1_checkHead_58 F σ := by
      unfold f_X1_checkHead
      simp (disch := omega) only [↓bnd_i, ↓cal_s, ↓cal_n, ↓cal2_s, ↓cal2_n, cal_s, cal2_s, ↓reduceIte, fa_lit, m1_lit, m2_lit, m1_lt, m2_lt, m1_eq, m2_eq, m1_le, m2_le, le_m1, le_m2, lt_m1, lt_m2, m12, m21, m1_m1, n_lt, n_le, n_eq, lt_t, lt_f, le_t, le_f, eq_t, eq_f, n_cl, inb_ok, n_add, pk_mul, pk_sub, n_rem, n_div, n_dec, n_mx, n_mn, eq_m1, eq_m2, ss_same, ss_ne, ss_r, ss_l, sr_f, sr_l, sr_same, sr_ne, sw_f, sw_l, sw_at, sw_ne, pk_us, pk_un, bI_t, bI_f, not_true_eq_false, not_false_eq_true, eq_self, and_true, true_and, and_false, false_and, or_true, true_or, or_false, false_or, decide_true, decide_false, Bool.false_eq_true, Bool.true_eq_false, ↓cal_w (wk), wk, h20]
    obtain ⟨r, σ', g1, g2, g3⟩ := d_58 (F := F) E D (a := 0) (by omega) (by omega) h20
    rcases g3 with ⟨z1, z2, z3, z4, z5⟩ | ⟨z1, b, z2, z3, z4, z5, z6, z7⟩
    · exact ⟨r, σ', (hO kd 0).1, (hO kd 0).2, 0, 0, 0, true, by rw [hh]; exact g1, g2, Or.inl ⟨rfl, Or.inr (Or.inr ⟨k0, z2, z3, rfl, rfl⟩)⟩, fun _ => ⟨z1, z4, z5⟩, fun q => by cases q⟩
    · rcases z2 with ⟨y1, y2, y3⟩ | ⟨y1, y2, y3, y4⟩
      · exact ⟨r, σ', 0, 0, 4, 4, 0, false, by rw [hh]; exact g1, g2, Or.inr ⟨rfl, Or.inr (Or.inr (Or.inl ⟨k0, y1, rfl, rfl, rfl⟩))⟩, fun q => (by cases q), fun _ => ⟨z1, by rw [z3, y2], by rw [z4, y2], z5, z6, by rw [z7, h23], by rw [y3, h24]⟩⟩
      · exact ⟨r, σ', 0, 0, 4, vl 1, 3, false, by rw [hh]; exact g1, g2, Or.inr ⟨rfl, Or.inr (Or.inr (Or.inr ⟨y1, y2, rfl, rfl, rfl⟩))⟩, fun q => (by cases q), fun _ => ⟨z1, by rw [z3, y3], by rw [z4, y3], z5, z6, by rw [z7, h23], y4⟩⟩
/-- the model's head -/
theorem t_hed (E : TkE kd vl pl e) {τ : St} (N : Fn kd vl pl e 0 τ) {x k P W b : Nat} {flt : Bool} (H : HdR kd vl pl x k P W b flt) (Kc : Int32 → Int32 → St → Option (Int32 × St)) : ∃ v w τ', (cal2 (f_X8_toldOr F τ (nI 20) (nI 1) (nI 8) (nI 4)) (fun r11 t12 => cal2 (f_X8_toldOr F t12 (nI 21) (nI 2) (nI 8) (nI 4)) (fun r13 t14 => Kc r11 r13 t14))) = Kc v w τ' ∧ FmP τ τ' ∧ (flt = true → Ft pl x k τ') ∧ (flt = false → v = nI P ∧ w = nI W ∧ Fn kd vl pl e b τ') := by
  obtain ⟨v, τ1, g1, g2, g3, g4⟩ := t_told (F := F) E (w := 0) (least := 1) (most := 8) N (Or.inl ⟨rfl, rfl, rfl⟩)
  have g1' : f_X8_toldOr F τ (nI 20) (nI 1) (nI 8) (nI 4) = some (v, τ1) := g1
  have snd : ∀ a, Fn kd vl pl e a τ1 → ∃ w τ', f_X8_toldOr F τ1 (nI 21) (nI 2) (nI 8) (nI 4) = some (w, τ') ∧ FmP τ1 τ' ∧ (kd a ≠ 1 → w = nI 4 ∧ τ' = τ1) ∧ (kd a = 1 → ((hO kd a).1 = 0 → w = nI (vl (a + 1)) ∧ Fn kd vl pl e (a + 3) τ') ∧ ((hO kd a).1 ≠ 0 → Ft pl (hO kd a).1 (hO kd a).2 τ')) := fun a N1 => t_told (F := F) E (w := 1) (least := 2) (most := 8) N1 (Or.inr ⟨rfl, rfl, rfl⟩)
  rw [cal2_w g1']
  rcases H with ⟨hf, ⟨k0, c, hx, hk⟩ | ⟨k0, c, k3, c3, hx, hk⟩ | ⟨k0, k1, c, hx, hk⟩⟩ | ⟨hf, ⟨k0, c, k3, hP, hW, hb⟩ | ⟨k0, c, k3, c3, hP, hW, hb⟩ | ⟨k0, k1, hP, hW, hb⟩ | ⟨k1, c, hP, hW, hb⟩⟩
  · have ft := (g4 k0).2 c
    have q1 := t_toldF (F := F) (y := nI 21) ft (nI 2) (nI 8)
    refine ⟨v, nI 4, τ1, by rw [cal2_w q1], g2, fun _ => by rw [hx, hk]; exact ft, fun q => ?_⟩
    rw [hf] at q; cases q
  · obtain ⟨-, N1⟩ := (g4 k0).1 c
    obtain ⟨w, τ', q1, q2, q3, q4⟩ := snd 3 N1
    refine ⟨v, w, τ', by rw [cal2_w q1], g2.trans q2, fun _ => by rw [hx, hk]; exact (q4 k3).2 c3, fun q => ?_⟩
    rw [hf] at q; cases q
  · obtain ⟨y1, y2⟩ := g3 k0
    obtain ⟨w, τ', q1, q2, q3, q4⟩ := snd 0 (by rw [y2]; exact N)
    refine ⟨v, w, τ', by rw [cal2_w q1], g2.trans q2, fun _ => by rw [hx, hk]; exact (q4 k1).2 c, fun q => ?_⟩
    rw [hf] at q; cases q
  · obtain ⟨v1, N1⟩ := (g4 k0).1 c
    obtain ⟨w, τ', q1, q2, q3, q4⟩ := snd 3 N1
    obtain ⟨y1, y2⟩ := q3 k3
    refine ⟨v, w, τ', by rw [cal2_w q1], g2.trans q2, fun q => ?_, fun _ => ⟨by rw [hP]; exact v1, by rw [hW]; exact y1, by rw [hb, y2]; exact N1⟩⟩
    rw [hf] at q; cases q
  · obtain ⟨v1, N1⟩ := (g4 k0).1 c
    obtain ⟨w, τ', q1, q2, q3, q4⟩ := snd 3 N1
    obtain ⟨y1, y2⟩ := (q4 k3).1 c3
    refine ⟨v, w, τ', by rw [cal2_w q1], g2.trans q2, fun q => ?_, fun _ => ⟨by rw [hP]; exact v1, by rw [hW]; exact y1, by rw [hb]; exact y2⟩⟩
    rw [hf] at q; cases q
  · obtain ⟨v1, y0⟩ := g3 k0
    obtain ⟨w, τ', q1, q2, q3, q4⟩ := snd 0 (by rw [y0]; exact N)
    obtain ⟨y1, y2⟩ := q3 k1
    refine ⟨v, w, τ', by rw [cal2_w q1], g2.trans q2, fun q => ?_, fun _ => ⟨by rw [hP]; exact v1, by rw [hW]; exact y1, by rw [hb, y2, y0]; exact N⟩⟩
    rw [hf] at q; cases q
  · obtain ⟨v1, y0⟩ := g3 (by omega)
    obtain ⟨w, τ', q1, q2, q3, q4⟩ := snd 0 (by rw [y0]; exact N)
    obtain ⟨y1, y2⟩ := (q4 k1).1 c
    refine ⟨v, w, τ', by rw [cal2_w q1], g2.trans q2, fun q => ?_, fun _ => ⟨by rw [hP]; exact v1, by rw [hW]; exact y1, by rw [hb]; exact y2⟩⟩
    rw [hf] at q; cases q
/-- what the text is: a fault, a wrong number, or a program -/
def ChR (F : Nat) (kd vl pl : Nat → Nat) (e : Nat) (v w : Int32) (σ' τ' : St) : Prop :=
  (∃ x k, (1 ≤ x ∧ x ≤ 2) ∧ σ'.1 21 = nI x ∧ σ'.1 22 = nI (pl k) ∧ τ'.1 6 = nI x ∧ τ'.1 7 = nI (pl k)) ∨
  (∃ k, σ'.1 21 = nI 5 ∧ σ'.1 22 = nI (pl k) ∧ τ'.1 6 = nI 0 ∧ τ'.1 8 = nI 5 ∧ τ'.1 9 = nI (pl k)) ∨
  (∃ P W a0 T c, σ'.1 21 = nI 0 ∧ σ'.1 22 = m1 ∧ σ'.1 23 = nI P ∧ σ'.1 24 = nI W ∧ σ'.1 25 = nI a0 ∧ v = nI P ∧ w = nI W ∧ (1 ≤ P ∧ P ≤ 8) ∧ (2 ≤ W ∧ W ≤ 8) ∧ τ'.1 6 = nI 0 ∧ τ'.1 8 = nI 0 ∧ TkD kd vl pl e σ' ∧ GS F kd vl pl e (psF F kd vl a0) (dpF kd (psF F kd vl a0)) T c [] τ' ∧ kd (psF F kd vl a0 T) = 29 ∧ dpF kd (psF F kd vl a0) T = 0 ∧ ∀ n, n < psF F kd vl a0 T → wrg kd vl n = false)
theorem chkA (hF : 1000 < F) (E : TkE kd vl pl e) {σ τ : St} (D : TkD kd vl pl e σ) (N : Fn kd vl pl e 0 τ) : ∃ σ' τ' v w, f_X1_check F σ = some σ' ∧ FrG σ σ' ∧ (cal2 (f_X8_toldOr F τ (nI 20) (nI 1) (nI 8) (nI 4)) (fun r11 t12 => cal2 (f_X8_toldOr F t12 (nI 21) (nI 2) (nI 8) (nI 4)) (fun r13 t14 => f_X8_read_102 F F t14 r11 r13))) = f_X8_read_143 F τ' v w ∧ FmP τ τ' ∧ ChR F kd vl pl e v w σ' τ' := by
  have E' := E
  obtain ⟨e1, e2, e3, e4, e5, e6⟩ := E'
  generalize hu : ss (ss (ss (ss (ss σ 20 (nI 0)) 21 (nI 0)) 22 m1) 23 (nI 4)) 24 (nI 4) = u
  have uf : FrG σ u := by rw [← hu]; exact (((((FrG.refl σ).ss (by omega) (by omega)).ss (by omega) (by omega)).ss (by omega) (by omega)).ss (by omega) (by omega)).ss (by omega) (by omega)
  have u20 : u.1 20 = nI 0 := by rw [← hu, ss_ne (by omega), ss_ne (by omega), ss_ne (by omega), ss_ne (by omega), ss_same]
  have u21 : u.1 21 = nI 0 := by rw [← hu, ss_ne (by omega), ss_ne (by omega), ss_ne (by omega), ss_same]
  have u22 : u.1 22 = m1 := by rw [← hu, ss_ne (by omega), ss_ne (by omega), ss_same]
  have u23 : u.1 23 = nI 4 := by rw [← hu, ss_ne (by omega), ss_same]
  have u24 : u.1 24 = nI 4 := by rw [← hu, ss_same]
  obtain ⟨r, σ1, x, k, P, W, b, flt, g1, g2, H, g3, g4⟩ := d_head (F := F) E (D.fr uf) u20 u23 u24
  obtain ⟨v, w, τ1, t1, t2, t3, t4⟩ := t_hed (F := F) E N H (fun r11 r13 t14 => f_X8_read_102 F F t14 r11 r13)
  obtain ⟨f0, hf0⟩ : ∃ k, F = k + 1 := ⟨F - 1, by omega⟩
  cases flt
  · obtain ⟨hr, h20, h25, h21, h22, h23, h24⟩ := g4 rfl
    obtain ⟨hv, hw, N1⟩ := t4 rfl
    obtain ⟨M, n6, n4, n5, n11, n12, n13, n1, n2, nW⟩ := N1
    have G0 : GS F kd vl pl e (psF F kd vl b) (dpF kd (psF F kd vl b)) 0 0 [] τ1 := ⟨⟨M, n6, n4, n5, n11, n12, n13, Nat.zero_le _⟩, ⟨n1, n2, Nat.zero_le _⟩, nW, ⟨trivial, rfl, Nat.zero_le _, trivial⟩, fun k h => by omega, fun d h => by omega, fun x h => by omega⟩
    obtain ⟨r2, σ2, τ2, q1, q2, q3, q4, q5⟩ := gram (ps := psF F kd vl b) (dp := dpF kd (psF F kd vl b)) hF E (fun k => rfl) (fun k => rfl) F F 0 0 0 [] σ1 τ1 ((D.fr uf).fr g2) h20 G0 (Nat.zero_le _) (by omega) (by omega)
    have q1' : f_X1_checkTells F σ1 = some (r2, σ2) := q1
    rcases q5 with ⟨hr2, x2, k2, hx2, z3, z4, z5⟩ | ⟨hr2, T, c, z2, z3, z4, z5⟩
    · refine ⟨σ2, τ2, v, w, ?_, (uf.trans g2).trans q2, by rw [t1]; exact q4 v w, t2.trans q3, Or.inl ⟨x2, k2, hx2, z3.1, z3.2.1, z4, z5⟩⟩
      rw [hr] at g1
      rw [hr2] at q1'
      unfold f_X1_check
      simp (disch := omega) only [↓bnd_i, ↓cal_s, ↓cal_n, ↓cal2_s, ↓cal2_n, cal_s, cal2_s, ↓reduceIte, fa_lit, m1_lit, m2_lit, m1_lt, m2_lt, m1_eq, m2_eq, m1_le, m2_le, le_m1, le_m2, lt_m1, lt_m2, m12, m21, m1_m1, n_lt, n_le, n_eq, lt_t, lt_f, le_t, le_f, eq_t, eq_f, n_cl, inb_ok, n_add, pk_mul, pk_sub, n_rem, n_div, n_dec, n_mx, n_mn, eq_m1, eq_m2, ss_same, ss_ne, ss_r, ss_l, sr_f, sr_l, sr_same, sr_ne, sw_f, sw_l, sw_at, sw_ne, pk_us, pk_un, bI_t, bI_f, not_true_eq_false, not_false_eq_true, eq_self, and_true, true_and, and_false, false_and, or_true, true_or, or_false, false_or, decide_true, decide_false, Bool.false_eq_true, Bool.true_eq_false, hu]
      simp (disch := omega) only [↓bnd_i, ↓cal_s, ↓cal_n, ↓cal2_s, ↓cal2_n, cal_s, cal2_s, ↓reduceIte, fa_lit, m1_lit, m2_lit, m1_lt, m2_lt, m1_eq, m2_eq, m1_le, m2_le, le_m1, le_m2, lt_m1, lt_m2, m12, m21, m1_m1, n_lt, n_le, n_eq, lt_t, lt_f, le_t, le_f, eq_t, eq_f, n_cl, inb_ok, n_add, pk_mul, pk_sub, n_rem, n_div, n_dec, n_mx, n_mn, eq_m1, eq_m2, ss_same, ss_ne, ss_r, ss_l, sr_f, sr_l, sr_same, sr_ne, sw_f, sw_l, sw_at, sw_ne, pk_us, pk_un, bI_t, bI_f, not_true_eq_false, not_false_eq_true, eq_self, and_true, true_and, and_false, false_and, or_true, true_or, or_false, false_or, decide_true, decide_false, Bool.false_eq_true, Bool.true_eq_false, ↓cal2_w (g1), g1, ↓cal2_w (q1'), q1']
    · have D2 : TkD kd vl pl e σ2 := ((D.fr uf).fr g2).fr q2
      have b1 := z3.2.1
      obtain ⟨σ3, y1, y2⟩ := d_numbers (F := F) hF E b1.1 b1.2.1 F 0 σ2 D2 (by rw [z2, ss_same]) (by rw [z2, ss_ne (by omega), h21]; exact u21) (Nat.zero_le _) (by omega)
      have y1' : f_X1_checkNumbers F σ2 = some σ3 := y1
      have hch : f_X1_check F σ = some σ3 := by
        rw [hr] at g1
        rw [hr2] at q1'
        unfold f_X1_check
        simp (disch := omega) only [↓bnd_i, ↓cal_s, ↓cal_n, ↓cal2_s, ↓cal2_n, cal_s, cal2_s, ↓reduceIte, fa_lit, m1_lit, m2_lit, m1_lt, m2_lt, m1_eq, m2_eq, m1_le, m2_le, le_m1, le_m2, lt_m1, lt_m2, m12, m21, m1_m1, n_lt, n_le, n_eq, lt_t, lt_f, le_t, le_f, eq_t, eq_f, n_cl, inb_ok, n_add, pk_mul, pk_sub, n_rem, n_div, n_dec, n_mx, n_mn, eq_m1, eq_m2, ss_same, ss_ne, ss_r, ss_l, sr_f, sr_l, sr_same, sr_ne, sw_f, sw_l, sw_at, sw_ne, pk_us, pk_un, bI_t, bI_f, not_true_eq_false, not_false_eq_true, eq_self, and_true, true_and, and_false, false_and, or_true, true_or, or_false, false_or, decide_true, decide_false, Bool.false_eq_true, Bool.true_eq_false, hu]
        simp (disch := omega) only [↓bnd_i, ↓cal_s, ↓cal_n, ↓cal2_s, ↓cal2_n, cal_s, cal2_s, ↓reduceIte, fa_lit, m1_lit, m2_lit, m1_lt, m2_lt, m1_eq, m2_eq, m1_le, m2_le, le_m1, le_m2, lt_m1, lt_m2, m12, m21, m1_m1, n_lt, n_le, n_eq, lt_t, lt_f, le_t, le_f, eq_t, eq_f, n_cl, inb_ok, n_add, pk_mul, pk_sub, n_rem, n_div, n_dec, n_mx, n_mn, eq_m1, eq_m2, ss_same, ss_ne, ss_r, ss_l, sr_f, sr_l, sr_same, sr_ne, sw_f, sw_l, sw_at, sw_ne, pk_us, pk_un, bI_t, bI_f, not_true_eq_false, not_false_eq_true, eq_self, and_true, true_and, and_false, false_and, or_true, true_or, or_false, false_or, decide_true, decide_false, Bool.false_eq_true, Bool.true_eq_false, ↓cal_w (y1'), y1', ↓cal2_w (g1), g1, ↓cal2_w (q1'), q1']
      have nW2 := z3.2.2.1
      rcases y2 with ⟨x1, x2⟩ | ⟨j, x1, x2, x3, x4, x5⟩
      · subst x2
        refine ⟨σ3, τ2, v, w, hch, (uf.trans g2).trans q2, by rw [t1]; exact q4 v w, t2.trans q3, Or.inr (Or.inr ⟨P, W, b, T, c, ?_, ?_, ?_, ?_, ?_, hv, hw, ?_, ?_, z3.1.2.1, ?_, D2, z3, z4, z5, fun n hn => x1 n (Nat.zero_le _) hn⟩)⟩
        · rw [z2, ss_ne (by omega), h21]; exact u21
        · rw [z2, ss_ne (by omega), h22]; exact u22
        · rw [z2, ss_ne (by omega)]; exact h23
        · rw [z2, ss_ne (by omega)]; exact h24
        · rw [z2, ss_ne (by omega)]; exact h25
        · have bT : b ≤ psF F kd vl b T := by
            have : ∀ k, k ≤ T → psF F kd vl b 0 ≤ psF F kd vl b k := by
              intro k
              induction k with
              | zero => intro _; exact Nat.le_refl _
              | succ k ih =>
                intro hk
                have h1 := (z3.2.2.2.2.1 k (by omega)).2.2.1.1
                have h2 := ih (by omega)
                omega
            exact this T (Nat.le_refl _)
          rcases H with ⟨hf, -⟩ | ⟨-, ⟨k0, c0, k3, hP, hW, hb⟩ | ⟨k0, c0, k3, c3, hP, hW, hb⟩ | ⟨k0, k1, hP, hW, hb⟩ | ⟨k1, c0, hP, hW, hb⟩⟩
          · cases hf
          · have w0 := of_decide_eq_false (x1 0 (by omega) (by omega))
            rw [Nat.zero_add] at w0
            omega
          · have w0 := of_decide_eq_false (x1 0 (by omega) (by omega))
            rw [Nat.zero_add] at w0
            omega
          · omega
          · omega
        · have bT : b ≤ psF F kd vl b T := by
            have : ∀ k, k ≤ T → psF F kd vl b 0 ≤ psF F kd vl b k := by
              intro k
              induction k with
              | zero => intro _; exact Nat.le_refl _
              | succ k ih =>
                intro hk
                have h1 := (z3.2.2.2.2.1 k (by omega)).2.2.1.1
                have h2 := ih (by omega)
                omega
            exact this T (Nat.le_refl _)
          rcases H with ⟨hf, -⟩ | ⟨-, ⟨k0, c0, k3, hP, hW, hb⟩ | ⟨k0, c0, k3, c3, hP, hW, hb⟩ | ⟨k0, k1, hP, hW, hb⟩ | ⟨k1, c0, hP, hW, hb⟩⟩
          · cases hf
          · omega
          · have w0 := of_decide_eq_false (x1 3 (by omega) (by omega))
            have e34 : (3 : Nat) + 1 = 4 := rfl
            rw [e34] at w0
            omega
          · omega
          · have w0 := of_decide_eq_false (x1 0 (by omega) (by omega))
            rw [Nat.zero_add] at w0
            omega
        · rcases nW2 with ⟨y, -⟩ | ⟨n0, y1, y2, y3, y4, y5, y6⟩
          · exact y
          · rw [x1 n0 (Nat.zero_le _) y1] at y2; cases y2
      · refine ⟨σ3, τ2, v, w, hch, ((uf.trans g2).trans q2).trans x5.2.2, by rw [t1]; exact q4 v w, t2.trans q3, Or.inr (Or.inl ⟨j + 1, x5.1, x5.2.1, z3.1.2.1, ?_⟩)⟩
        rcases nW2 with ⟨y, y2⟩ | ⟨n0, y1, y2, y3, y4, y5, y6⟩
        · rw [y2 j x2] at x3; cases x3
        · have : n0 = j := by
            rcases Nat.lt_trichotomy n0 j with z | z | z
            · rw [x4 n0 (Nat.zero_le _) z] at y2; cases y2
            · exact z
            · rw [y3 j z] at x3; cases x3
          rw [this] at y5
          exact ⟨y4, y5⟩
  · obtain ⟨hr, h21, h22⟩ := g3 rfl
    have ft := t3 rfl
    refine ⟨σ1, τ1, v, w, ?_, uf.trans g2, ?_, t2, Or.inl ⟨x, k, ft.2.2, h21, h22, ft.1, ft.2.1⟩⟩
    · rw [hr] at g1
      unfold f_X1_check
      simp (disch := omega) only [↓bnd_i, ↓cal_s, ↓cal_n, ↓cal2_s, ↓cal2_n, cal_s, cal2_s, ↓reduceIte, fa_lit, m1_lit, m2_lit, m1_lt, m2_lt, m1_eq, m2_eq, m1_le, m2_le, le_m1, le_m2, lt_m1, lt_m2, m12, m21, m1_m1, n_lt, n_le, n_eq, lt_t, lt_f, le_t, le_f, eq_t, eq_f, n_cl, inb_ok, n_add, pk_mul, pk_sub, n_rem, n_div, n_dec, n_mx, n_mn, eq_m1, eq_m2, ss_same, ss_ne, ss_r, ss_l, sr_f, sr_l, sr_same, sr_ne, sw_f, sw_l, sw_at, sw_ne, pk_us, pk_un, bI_t, bI_f, not_true_eq_false, not_false_eq_true, eq_self, and_true, true_and, and_false, false_and, or_true, true_or, or_false, false_or, decide_true, decide_false, Bool.false_eq_true, Bool.true_eq_false, hu]
      simp (disch := omega) only [↓bnd_i, ↓cal_s, ↓cal_n, ↓cal2_s, ↓cal2_n, cal_s, cal2_s, ↓reduceIte, fa_lit, m1_lit, m2_lit, m1_lt, m2_lt, m1_eq, m2_eq, m1_le, m2_le, le_m1, le_m2, lt_m1, lt_m2, m12, m21, m1_m1, n_lt, n_le, n_eq, lt_t, lt_f, le_t, le_f, eq_t, eq_f, n_cl, inb_ok, n_add, pk_mul, pk_sub, n_rem, n_div, n_dec, n_mx, n_mn, eq_m1, eq_m2, ss_same, ss_ne, ss_r, ss_l, sr_f, sr_l, sr_same, sr_ne, sw_f, sw_l, sw_at, sw_ne, pk_us, pk_un, bI_t, bI_f, not_true_eq_false, not_false_eq_true, eq_self, and_true, true_and, and_false, false_and, or_true, true_or, or_false, false_or, decide_true, decide_false, Bool.false_eq_true, Bool.true_eq_false, ↓cal2_w (g1), g1]
    · rw [t1]
      have := t_102F (F := F) (m := f0) (p := v) (q := w) ft.1 (by have := ft.2.2; omega)
      rw [← hf0] at this
      exact this
end
