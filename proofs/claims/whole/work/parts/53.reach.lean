/-! PURE: reach, hurts. The frames of those that use what lies beside the store. -/
def FrX (σ σ' : St) : Prop := (∀ k, k < 4 ∨ (18 < k ∧ k < 32) → σ'.1 k = σ.1 k) ∧ (∀ r, r < 10 ∨ (25 < r ∧ r < 33) → σ'.2.1 r = σ.2.1 r) ∧ σ'.2.2 = σ.2.2
/-- the builder of names is as it should be -/
def SB (σ : St) : Prop := σ.1 32 = nI 0 ∧ ∃ k, k ≤ 16 ∧ σ.1 34 = nI k
def Fr10 (σ σ' : St) : Prop := (∀ k, k < 4 ∨ 18 < k → σ'.1 k = σ.1 k) ∧ (∀ r, r < 10 ∨ 25 < r → σ'.2.1 r = σ.2.1 r) ∧ σ'.2.2 = σ.2.2
theorem Fr10.trans {a b c : St} (h : Fr10 a b) (k : Fr10 b c) : Fr10 a c := ⟨fun i hi => (k.1 i hi).trans (h.1 i hi), fun i hi => (k.2.1 i hi).trans (h.2.1 i hi), k.2.2.trans h.2.2⟩
theorem Fr10.sr {σ σ' : St} {a i : Nat} {v : Int32} (h : Fr10 σ σ') (h4 : 10 ≤ a) (h18 : a ≤ 25) : Fr10 σ (sr σ' a i v) := ⟨h.1, fun r hr => (sr_ne (by omega)).trans (h.2.1 r hr), h.2.2⟩
theorem Fr.to10 {a b : St} (h : Fr a b) : Fr10 a b := ⟨h.1, fun r hr => h.2.1 r (by omega), h.2.2⟩
theorem Fr10.toX {a b : St} (h : Fr10 a b) : FrX a b ∧ (SB a → SB b) := ⟨⟨fun k hk => h.1 k (by omega), fun r hr => h.2.1 r (by omega), h.2.2⟩, fun s => by
  unfold SB at *
  rw [h.1 32 (by omega), h.1 34 (by omega)]
  exact s⟩
def OpX (σ τ : St) (x y : Option (Int32 × St)) : Prop := ∃ r σ' τ', x = some (r, σ') ∧ y = some (r, τ') ∧ Core σ' τ' ∧ (FrX σ σ' ∧ (SB σ → SB σ')) ∧ FrM τ τ' ∧ nw τ' 6 = nw τ 6
theorem Op.toX {σ τ : St} {x y : Option (Int32 × St)} (h : Op σ τ x y) : OpX σ τ x y := by
  obtain ⟨r, σ', τ', e1, e2, C, f1, f2, e3⟩ := h
  exact ⟨r, σ', τ', e1, e2, C, f1.to10.toX, f2, e3⟩
theorem d_fill {F : Nat} : ∀ (n k : Nat) (t : St), k ≤ 241 → 241 - k < n → f_J7_fill_031fb_5 F n t (nI 0) (nI k) (nI 241) = some (sw t 10 (fun i => if k ≤ i ∧ i < 241 then nI 0 else t.2.1 10 i)) := by
  intro n
  induction n with
  | zero => intro k t _ h; omega
  | succ n ih =>
    intro k t hk hn
    rw [f_J7_fill_031fb_5]
    by_cases c : k = 241
    · have e : (fun i => if k ≤ i ∧ i < 241 then nI 0 else t.2.1 10 i) = t.2.1 10 := by
        funext i
        rw [if_neg (by omega)]
      rw [e, sw_self]
      simp (disch := omega) only [↓bnd_i, ↓cal_s, ↓cal_n, ↓cal2_s, ↓cal2_n, cal_s, cal2_s, ↓reduceIte, fa_lit, m1_lit, m2_lit, m1_lt, m2_lt, m1_eq, m2_eq, m1_le, m2_le, le_m1, le_m2, lt_m1, lt_m2, m12, m21, m1_m1, n_lt, n_le, n_eq, lt_t, lt_f, le_t, le_f, eq_t, eq_f, n_cl, inb_ok, n_add, pk_mul, pk_sub, n_rem, n_div, n_dec, n_mx, n_mn, eq_m1, eq_m2, ss_same, ss_ne, ss_r, ss_l, sr_f, sr_l, sr_same, sr_ne, sw_f, sw_l, sw_at, sw_ne, pk_us, pk_un, bI_t, bI_f, not_true_eq_false, not_false_eq_true, eq_self, and_true, true_and, and_false, false_and, or_true, true_or, or_false, false_or, decide_true, decide_false, Bool.false_eq_true, Bool.true_eq_false]
    · have ih' := ih (k + 1) (sr t 10 k (nI 0)) (by omega) (by omega)
      simp (disch := omega) only [↓bnd_i, ↓cal_s, ↓cal_n, ↓cal2_s, ↓cal2_n, cal_s, cal2_s, ↓reduceIte, fa_lit, m1_lit, m2_lit, m1_lt, m2_lt, m1_eq, m2_eq, m1_le, m2_le, le_m1, le_m2, lt_m1, lt_m2, m12, m21, m1_m1, n_lt, n_le, n_eq, lt_t, lt_f, le_t, le_f, eq_t, eq_f, n_cl, inb_ok, n_add, pk_mul, pk_sub, n_rem, n_div, n_dec, n_mx, n_mn, eq_m1, eq_m2, ss_same, ss_ne, ss_r, ss_l, sr_f, sr_l, sr_same, sr_ne, sw_f, sw_l, sw_at, sw_ne, pk_us, pk_un, bI_t, bI_f, not_true_eq_false, not_false_eq_true, eq_self, and_true, true_and, and_false, false_and, or_true, true_or, or_false, false_or, decide_true, decide_false, Bool.false_eq_true, Bool.true_eq_false, nar0]
      rw [ih', sr_as, sw_sw]
      congr 2
      funext i
      rw [sw_at]
      by_cases d : i = k
      · subst d
        rw [if_neg (by omega), if_pos (by omega), pk_us]
      · rw [pk_un d]
        by_cases d2 : k ≤ i ∧ i < 241
        · rw [if_pos d2, if_pos (by omega)]
        · rw [if_neg d2, if_neg (by omega)]
theorem mx_0 {a : Nat} (h : a < 2 ^ 31) : mx (nI a) (nI 0) = nI a := by
  rw [n_mx h (by omega), Nat.max_eq_left (by omega)]
theorem d_reachL {F : Nat} (hF : 300 < F) {l c b : Nat} (hb : b ≤ 241) (K : St → Int32 → Int32 → Int32 → Option (Int32 × St)) : ∀ (n q : Nat) (t : St) (S : Nat → Bool), t.1 15 = eX b → (∀ i, i < 241 → t.2.1 10 i = bI (S i)) → q ≤ 241 → 241 - q < n → ∃ t', f_X7_reachOf_45 F K n t (nI l) (nI (fb_ct S 241)) (nI c) (nI q) = K t' (nI l) (nI (fb_ct (fun i => S i || decide (q ≤ i ∧ i < b)) 241)) (nI (c + 1)) ∧ t'.1 = t.1 ∧ t'.2.2 = t.2.2 ∧ (∀ r, r ≠ 10 → t'.2.1 r = t.2.1 r) ∧ ∀ i, i < 241 → t'.2.1 10 i = bI (S i || decide (q ≤ i ∧ i < b)) := by
  intro n
  induction n with
  | zero => intro q t S _ _ _ h; omega
  | succ n ih =>
    intro q t S h15 hS hq hn
    rw [f_X7_reachOf_45]
    by_cases e : b ≤ q
    · have eS : ∀ i, (S i || decide (q ≤ i ∧ i < b)) = S i := fun i => by
        rw [decide_eq_false (by omega), Bool.or_false]
      refine ⟨t, ?_, rfl, rfl, fun _ _ => rfl, fun i hi => by rw [eS]; exact hS i hi⟩
      rw [fb_ct_cong (fun i _ => eS i)]
      by_cases b0 : b = 0
      · rw [eX_0 b0] at h15
        simp (disch := omega) only [↓bnd_i, ↓cal_s, ↓cal_n, ↓cal2_s, ↓cal2_n, cal_s, cal2_s, ↓reduceIte, fa_lit, m1_lit, m2_lit, m1_lt, m2_lt, m1_eq, m2_eq, m1_le, m2_le, le_m1, le_m2, lt_m1, lt_m2, m12, m21, m1_m1, n_lt, n_le, n_eq, lt_t, lt_f, le_t, le_f, eq_t, eq_f, n_cl, inb_ok, n_add, pk_mul, pk_sub, n_rem, n_div, n_dec, n_mx, n_mn, eq_m1, eq_m2, ss_same, ss_ne, ss_r, ss_l, sr_f, sr_l, sr_same, sr_ne, sw_f, sw_l, sw_at, sw_ne, pk_us, pk_un, bI_t, bI_f, not_true_eq_false, not_false_eq_true, eq_self, and_true, true_and, and_false, false_and, or_true, true_or, or_false, false_or, decide_true, decide_false, Bool.false_eq_true, Bool.true_eq_false, h15, f_X7_reachOf_99]
      · rw [eX_s b0] at h15
        simp (disch := omega) only [↓bnd_i, ↓cal_s, ↓cal_n, ↓cal2_s, ↓cal2_n, cal_s, cal2_s, ↓reduceIte, fa_lit, m1_lit, m2_lit, m1_lt, m2_lt, m1_eq, m2_eq, m1_le, m2_le, le_m1, le_m2, lt_m1, lt_m2, m12, m21, m1_m1, n_lt, n_le, n_eq, lt_t, lt_f, le_t, le_f, eq_t, eq_f, n_cl, inb_ok, n_add, pk_mul, pk_sub, n_rem, n_div, n_dec, n_mx, n_mn, eq_m1, eq_m2, ss_same, ss_ne, ss_r, ss_l, sr_f, sr_l, sr_same, sr_ne, sw_f, sw_l, sw_at, sw_ne, pk_us, pk_un, bI_t, bI_f, not_true_eq_false, not_false_eq_true, eq_self, and_true, true_and, and_false, false_and, or_true, true_or, or_false, false_or, decide_true, decide_false, Bool.false_eq_true, Bool.true_eq_false, h15, f_X7_reachOf_99]
    · rw [eX_s (by omega)] at h15
      have hq' : q < 241 := by omega
      have hSq := hS q hq'
      have hct := fb_ct_le S 241
      obtain ⟨t', k1, k2, k3, k4, k5⟩ := ih (q + 1) (sr t 10 q (nI 1)) (fun i => if i = q then true else S i) (by rw [sr_f, eX_s (by omega)]; exact h15) (fun i hi => by
        rw [sr_same]
        by_cases d : i = q
        · rw [d, pk_us, if_pos rfl]; rfl
        · rw [pk_un d, if_neg d]; exact hS i hi) (by omega) (by omega)
      have eS : ∀ i, ((if i = q then true else S i) || decide (q + 1 ≤ i ∧ i < b)) = (S i || decide (q ≤ i ∧ i < b)) := fun i => by
        by_cases d : i = q
        · rw [if_pos d, decide_eq_true (show q ≤ i ∧ i < b by omega), Bool.or_true]; rfl
        · rw [if_neg d]
          congr 1
          exact decide_eq_decide.mpr (by omega)
      have hu := fb_ct_upd S true (i := q) (n := 241) hq'
      rw [fb_ct_cong (fun i _ => eS i)] at k1
      refine ⟨t', ?_, k2, k3, fun r hr => (k4 r hr).trans (sr_ne hr), fun i hi => by rw [k5 i hi, eS]⟩
      rw [← k1]
      cases d : S q
      · rw [d] at hSq hu
        simp only [Bool.false_eq_true, if_false, if_true, Nat.add_zero] at hu
        rw [hu]
        simp (disch := omega) only [↓bnd_i, ↓cal_s, ↓cal_n, ↓cal2_s, ↓cal2_n, cal_s, cal2_s, ↓reduceIte, fa_lit, m1_lit, m2_lit, m1_lt, m2_lt, m1_eq, m2_eq, m1_le, m2_le, le_m1, le_m2, lt_m1, lt_m2, m12, m21, m1_m1, n_lt, n_le, n_eq, lt_t, lt_f, le_t, le_f, eq_t, eq_f, n_cl, inb_ok, n_add, pk_mul, pk_sub, n_rem, n_div, n_dec, n_mx, n_mn, eq_m1, eq_m2, ss_same, ss_ne, ss_r, ss_l, sr_f, sr_l, sr_same, sr_ne, sw_f, sw_l, sw_at, sw_ne, pk_us, pk_un, bI_t, bI_f, not_true_eq_false, not_false_eq_true, eq_self, and_true, true_and, and_false, false_and, or_true, true_or, or_false, false_or, decide_true, decide_false, Bool.false_eq_true, Bool.true_eq_false, h15, hSq, f_X7_reachOf_83, nar1]
      · rw [d] at hSq hu
        simp only [if_true] at hu
        rw [show fb_ct (fun k => if k = q then true else S k) 241 = fb_ct S 241 by omega]
        simp (disch := omega) only [↓bnd_i, ↓cal_s, ↓cal_n, ↓cal2_s, ↓cal2_n, cal_s, cal2_s, ↓reduceIte, fa_lit, m1_lit, m2_lit, m1_lt, m2_lt, m1_eq, m2_eq, m1_le, m2_le, le_m1, le_m2, lt_m1, lt_m2, m12, m21, m1_m1, n_lt, n_le, n_eq, lt_t, lt_f, le_t, le_f, eq_t, eq_f, n_cl, inb_ok, n_add, pk_mul, pk_sub, n_rem, n_div, n_dec, n_mx, n_mn, eq_m1, eq_m2, ss_same, ss_ne, ss_r, ss_l, sr_f, sr_l, sr_same, sr_ne, sw_f, sw_l, sw_at, sw_ne, pk_us, pk_un, bI_t, bI_f, not_true_eq_false, not_false_eq_true, eq_self, and_true, true_and, and_false, false_and, or_true, true_or, or_false, false_or, decide_true, decide_false, Bool.false_eq_true, Bool.true_eq_false, h15, hSq, f_X7_reachOf_83, nar1, Nat.add_zero]
theorem d_reachOf {F : Nat} (hF : 300 < F) {σ : St} {N : Nat → Int32} (h : NN N) (j : JJ σ N) {l : Nat} (hl : l < nl N) : ∃ t', f_X7_reachOf F σ (nI l) = some (nI (fb_ct (rcF N l (nc N)) 241), t') ∧ JJ t' N ∧ Fr10 σ t' := by
  obtain ⟨b1, b2, b3, b4, b5, b6, b7, b8⟩ := NNb h
  have ht := (h.2.1.1 l hl).2
  have key : ∀ (n c : Nat) (t : St), JJ t N → Fr10 σ t → (∀ i, i < 241 → t.2.1 10 i = bI (rcF N l c i)) → c ≤ nc N → nc N - c < n → ∃ t', f_X7_reachOf_12 F n t (nI l) (nI (fb_ct (rcF N l c) 241)) (nI c) = some (nI (fb_ct (rcF N l (nc N)) 241), t') ∧ JJ t' N ∧ Fr10 σ t' := by
    intro n
    induction n with
    | zero => intro c t _ _ _ _ h; omega
    | succ n ih =>
      intro c t hJ hFr hR hc hn
      have e8 := (JJf h hJ).2.2.2.2
      rw [f_X7_reachOf_12]
      by_cases e : c = nc N
      · refine ⟨t, ?_, hJ, hFr⟩
        rw [e]
        simp (disch := omega) only [↓bnd_i, ↓cal_s, ↓cal_n, ↓cal2_s, ↓cal2_n, cal_s, cal2_s, ↓reduceIte, fa_lit, m1_lit, m2_lit, m1_lt, m2_lt, m1_eq, m2_eq, m1_le, m2_le, le_m1, le_m2, lt_m1, lt_m2, m12, m21, m1_m1, n_lt, n_le, n_eq, lt_t, lt_f, le_t, le_f, eq_t, eq_f, n_cl, inb_ok, n_add, pk_mul, pk_sub, n_rem, n_div, n_dec, n_mx, n_mn, eq_m1, eq_m2, ss_same, ss_ne, ss_r, ss_l, sr_f, sr_l, sr_same, sr_ne, sw_f, sw_l, sw_at, sw_ne, pk_us, pk_un, bI_t, bI_f, not_true_eq_false, not_false_eq_true, eq_self, and_true, true_and, and_false, false_and, or_true, true_or, or_false, false_or, decide_true, decide_false, Bool.false_eq_true, Bool.true_eq_false, e8]
      · have hc' : c < nc N := by omega
        obtain ⟨u, a1, a2, a3, a4, a5⟩ := d_aim (F := F) hF h hJ (nI c) (nI l)
        obtain ⟨e1, e2⟩ := aim_r h hc' hl a5
        have r1 := rA_le h hc'
        have r2 := rB_le h (c := c) (l := l)
        obtain ⟨v, k1, k2, k3, k4, k5⟩ := d_reachL (F := F) hF (l := l) (c := c) (b := rB N c l) (by omega) (f_X7_reachOf_12 F n) F (rA N c) u (rcF N l c) e2 (fun i hi => by rw [a3.2.1 10 (by omega)]; exact hR i hi) (by omega) (by omega)
        obtain ⟨t', g1, g2, g3⟩ := ih (c + 1) v (JJ_same a2 (fun k _ _ => by rw [k2]) (fun r h1 _ => k4 r (by omega))) (hFr.trans (a3.to10.trans ⟨fun k _ => by rw [k2], fun r hr => k4 r (by omega), k3⟩)) k5 (by omega) (by omega)
        refine ⟨t', ?_, g2, g3⟩
        simp (disch := omega) only [↓bnd_i, ↓cal_s, ↓cal_n, ↓cal2_s, ↓cal2_n, cal_s, cal2_s, ↓reduceIte, fa_lit, m1_lit, m2_lit, m1_lt, m2_lt, m1_eq, m2_eq, m1_le, m2_le, le_m1, le_m2, lt_m1, lt_m2, m12, m21, m1_m1, n_lt, n_le, n_eq, lt_t, lt_f, le_t, le_f, eq_t, eq_f, n_cl, inb_ok, n_add, pk_mul, pk_sub, n_rem, n_div, n_dec, n_mx, n_mn, eq_m1, eq_m2, ss_same, ss_ne, ss_r, ss_l, sr_f, sr_l, sr_same, sr_ne, sw_f, sw_l, sw_at, sw_ne, pk_us, pk_un, bI_t, bI_f, not_true_eq_false, not_false_eq_true, eq_self, and_true, true_and, and_false, false_and, or_true, true_or, or_false, false_or, decide_true, decide_false, Bool.false_eq_true, Bool.true_eq_false, ↓cal_w (a1), a1, e8, e1, show max (rA N c) 0 = rA N c from Nat.max_eq_left (by omega)]
        rw [k1]
        exact g1
  have kf := d_fill (F := F) F 0 σ (by omega) (by omega)
  obtain ⟨t', g1, g2, g3⟩ := key F 0 (sw σ 10 (fun i => if 0 ≤ i ∧ i < 241 then nI 0 else σ.2.1 10 i)) (JJ_same j (fun k _ _ => rfl) (fun r h1 _ => sw_ne (by omega))) ⟨fun _ _ => rfl, fun r hr => sw_ne (by omega), rfl⟩ (fun i hi => by rw [sw_at, if_pos (by omega)]; rfl) (by omega) (by omega)
  refine ⟨t', ?_, g2, g3⟩
  have z : fb_ct (rcF N l 0) 241 = 0 := fb_ct_zero.mpr (fun _ _ => rfl)
  rw [z] at g1
  show cal (f_J7_fill_031fb_5 F F σ (nI 0) (nI 0) (nI 241)) _ = _
  rw [cal_w kf]
  exact g1
theorem rcF_out {N : Nat → Int32} (h : NN N) {l p : Nat} (hp : tp N l < p) : ∀ n, rcF N l n p = false
  | 0 => rfl
  | n + 1 => by
    have := rB_le h (c := n) (l := l)
    rw [rcF_s, rcF_out h hp n, decide_eq_false (by omega)]
    rfl
theorem rcF_ct {N : Nat → Int32} (h : NN N) {l : Nat} (ht : tp N l ≤ 240) (n : Nat) : fb_ct (rcF N l n) 241 = fb_ct (rcF N l n) (tp N l + 1) := by
  have e := fb_ct_split (rcF N l n) (tp N l + 1) (240 - tp N l)
  rw [show tp N l + 1 + (240 - tp N l) = 241 by omega] at e
  have z : fb_ct (fun k => rcF N l n (tp N l + 1 + k)) (240 - tp N l) = 0 := fb_ct_zero.mpr (fun k _ => rcF_out h (by omega) n)
  omega
theorem t_reachOf {F : Nat} (hF : 300 < F) {τ : St} (h : NN (nw τ)) {l : Nat} (hl : l < nl (nw τ)) : ∃ t', f_X8_reachOf F τ (nI l) = some (nI (fb_ct (rcF (nw τ) l (nc (nw τ))) 241), t') ∧ FrM τ t' ∧ nw t' = nw τ := by
  obtain ⟨b1, b2, b3, b4, b5, b6, b7, b8⟩ := NNb h
  have ht := h.2.1.1 l hl
  rw [rcF_ct h ht.2]
  have key : ∀ (n p : Nat) (t : St), nw t = nw τ → FrM τ t → p ≤ tp (nw τ) l + 1 → tp (nw τ) l + 1 - p < n → ∃ t', f_X8_reachOf_4 F n t (nI l) (nI (fb_ct (rcF (nw τ) l (nc (nw τ))) p)) (nI p) = some (nI (fb_ct (rcF (nw τ) l (nc (nw τ))) (tp (nw τ) l + 1)), t') ∧ FrM τ t' ∧ nw t' = nw τ := by
    intro n
    induction n with
    | zero => intro p t _ _ _ h; omega
    | succ n ih =>
      intro p t hN hFr hp hn
      have tp' := t_placeOf (F := F) (τ := t) (show l < 8 by omega)
      rw [hN, ht.1] at tp'
      rw [f_X8_reachOf_4]
      by_cases e : p = tp (nw τ) l + 1
      · refine ⟨t, ?_, hFr, hN⟩
        rw [e]
        simp (disch := omega) only [↓bnd_i, ↓cal_s, ↓cal_n, ↓cal2_s, ↓cal2_n, cal_s, cal2_s, ↓reduceIte, fa_lit, m1_lit, m2_lit, m1_lt, m2_lt, m1_eq, m2_eq, m1_le, m2_le, le_m1, le_m2, lt_m1, lt_m2, m12, m21, m1_m1, n_lt, n_le, n_eq, lt_t, lt_f, le_t, le_f, eq_t, eq_f, n_cl, inb_ok, n_add, pk_mul, pk_sub, n_rem, n_div, n_dec, n_mx, n_mn, eq_m1, eq_m2, ss_same, ss_ne, ss_r, ss_l, sr_f, sr_l, sr_same, sr_ne, sw_f, sw_l, sw_at, sw_ne, pk_us, pk_un, bI_t, bI_f, not_true_eq_false, not_false_eq_true, eq_self, and_true, true_and, and_false, false_and, or_true, true_or, or_false, false_or, decide_true, decide_false, Bool.false_eq_true, Bool.true_eq_false, ↓cal_w (tp'), tp']
      · obtain ⟨u, c1, c2, c3⟩ := t_isAnyTo (F := F) hF (τ := t) (by rw [hN]; exact h) (l := l) (p := p) (by rw [hN]; exact hl) (by rw [hN]; omega)
        rw [hN] at c1 c3
        have hct := fb_ct_le (rcF (nw τ) l (nc (nw τ))) p
        obtain ⟨t', k1, k2, k3⟩ := ih (p + 1) u c3 (hFr.trans c2) (by omega) (by omega)
        refine ⟨t', ?_, k2, k3⟩
        rw [fb_ct_succ] at k1
        cases d : rcF (nw τ) l (nc (nw τ)) p
        · rw [d] at c1 k1
          simp only [Bool.false_eq_true, if_false, Nat.add_zero] at k1
          simp (disch := omega) only [↓bnd_i, ↓cal_s, ↓cal_n, ↓cal2_s, ↓cal2_n, cal_s, cal2_s, ↓reduceIte, fa_lit, m1_lit, m2_lit, m1_lt, m2_lt, m1_eq, m2_eq, m1_le, m2_le, le_m1, le_m2, lt_m1, lt_m2, m12, m21, m1_m1, n_lt, n_le, n_eq, lt_t, lt_f, le_t, le_f, eq_t, eq_f, n_cl, inb_ok, n_add, pk_mul, pk_sub, n_rem, n_div, n_dec, n_mx, n_mn, eq_m1, eq_m2, ss_same, ss_ne, ss_r, ss_l, sr_f, sr_l, sr_same, sr_ne, sw_f, sw_l, sw_at, sw_ne, pk_us, pk_un, bI_t, bI_f, not_true_eq_false, not_false_eq_true, eq_self, and_true, true_and, and_false, false_and, or_true, true_or, or_false, false_or, decide_true, decide_false, Bool.false_eq_true, Bool.true_eq_false, ↓cal_w (tp'), tp', ↓cal2_w (c1), c1, f_X8_reachOf_25]
          exact k1
        · rw [d] at c1 k1
          simp only [if_true] at k1
          simp (disch := omega) only [↓bnd_i, ↓cal_s, ↓cal_n, ↓cal2_s, ↓cal2_n, cal_s, cal2_s, ↓reduceIte, fa_lit, m1_lit, m2_lit, m1_lt, m2_lt, m1_eq, m2_eq, m1_le, m2_le, le_m1, le_m2, lt_m1, lt_m2, m12, m21, m1_m1, n_lt, n_le, n_eq, lt_t, lt_f, le_t, le_f, eq_t, eq_f, n_cl, inb_ok, n_add, pk_mul, pk_sub, n_rem, n_div, n_dec, n_mx, n_mn, eq_m1, eq_m2, ss_same, ss_ne, ss_r, ss_l, sr_f, sr_l, sr_same, sr_ne, sw_f, sw_l, sw_at, sw_ne, pk_us, pk_un, bI_t, bI_f, not_true_eq_false, not_false_eq_true, eq_self, and_true, true_and, and_false, false_and, or_true, true_or, or_false, false_or, decide_true, decide_false, Bool.false_eq_true, Bool.true_eq_false, ↓cal_w (tp'), tp', ↓cal2_w (c1), c1, f_X8_reachOf_25]
          exact k1
  obtain ⟨t', k1, k2, k3⟩ := key F 0 τ rfl (FrM.refl τ) (by omega) (by omega)
  exact ⟨t', k1, k2, k3⟩
theorem opX {σ τ σ' τ' : St} (C : Core σ τ) (j : JJ σ' (nw τ)) (f : Fr10 σ σ') (g : FrM τ τ') (e : nw τ' = nw τ) (r : Int32) : OpX σ τ (some (r, σ')) (some (r, τ')) := ⟨r, σ', τ', rfl, rfl, by unfold Core; rw [e]; exact ⟨C.1, j⟩, f.toX, g, by rw [e]⟩
theorem op_reach {F : Nat} (hF : 300 < F) {σ τ : St} (C : Core σ τ) (x : Int32) : OpX σ τ (f_X7_reach F σ x) (f_X8_reach F τ x) := by
  obtain ⟨b1, b2, b3, b4, b5, b6, b7, b8⟩ := NNb C.1
  unfold f_X7_reach f_X8_reach
  cases dx : isN x (nl (nw τ))
  · simp (disch := omega) only [↓bnd_i, ↓cal_s, ↓cal_n, ↓cal2_s, ↓cal2_n, cal_s, cal2_s, ↓reduceIte, fa_lit, m1_lit, m2_lit, m1_lt, m2_lt, m1_eq, m2_eq, m1_le, m2_le, le_m1, le_m2, lt_m1, lt_m2, m12, m21, m1_m1, n_lt, n_le, n_eq, lt_t, lt_f, le_t, le_f, eq_t, eq_f, n_cl, inb_ok, n_add, pk_mul, pk_sub, n_rem, n_div, n_dec, n_mx, n_mn, eq_m1, eq_m2, ss_same, ss_ne, ss_r, ss_l, sr_f, sr_l, sr_same, sr_ne, sw_f, sw_l, sw_at, sw_ne, pk_us, pk_un, bI_t, bI_f, not_true_eq_false, not_false_eq_true, eq_self, and_true, true_and, and_false, false_and, or_true, true_or, or_false, false_or, decide_true, decide_false, Bool.false_eq_true, Bool.true_eq_false, ↓cal_w (d_hasLine C.1.1 C.2.1 x), d_hasLine C.1.1 C.2.1 x, ↓cal_w (t_isLine C.1.1 x), t_isLine C.1.1 x, dx]
    exact (Op.same C _).toX
  · obtain ⟨l, hl, rfl⟩ := isN_e dx (by omega)
    obtain ⟨t, k1, k2, k3⟩ := d_reachOf (F := F) hF C.1 C.2 hl
    obtain ⟨u, g1, g2, g3⟩ := t_reachOf (F := F) hF C.1 hl
    simp (disch := omega) only [↓bnd_i, ↓cal_s, ↓cal_n, ↓cal2_s, ↓cal2_n, cal_s, cal2_s, ↓reduceIte, fa_lit, m1_lit, m2_lit, m1_lt, m2_lt, m1_eq, m2_eq, m1_le, m2_le, le_m1, le_m2, lt_m1, lt_m2, m12, m21, m1_m1, n_lt, n_le, n_eq, lt_t, lt_f, le_t, le_f, eq_t, eq_f, n_cl, inb_ok, n_add, pk_mul, pk_sub, n_rem, n_div, n_dec, n_mx, n_mn, eq_m1, eq_m2, ss_same, ss_ne, ss_r, ss_l, sr_f, sr_l, sr_same, sr_ne, sw_f, sw_l, sw_at, sw_ne, pk_us, pk_un, bI_t, bI_f, not_true_eq_false, not_false_eq_true, eq_self, and_true, true_and, and_false, false_and, or_true, true_or, or_false, false_or, decide_true, decide_false, Bool.false_eq_true, Bool.true_eq_false, ↓cal_w (d_hasLine C.1.1 C.2.1 _), d_hasLine C.1.1 C.2.1 _, ↓cal_w (t_isLine C.1.1 _), t_isLine C.1.1 _, ↓cal2_w (k1), k1, ↓cal2_w (g1), g1, dx]
    exact opX C k2 k3 g2 g3 _
theorem op_hurts {F : Nat} (hF : 300 < F) {σ τ : St} (C : Core σ τ) (x y : Int32) : OpX σ τ (f_X7_hurts F σ x y) (f_X8_hurts F τ x y) := by
  obtain ⟨b1, b2, b3, b4, b5, b6, b7, b8⟩ := NNb C.1
  unfold f_X7_hurts f_X8_hurts
  rcases pieceX C.1 x y with hx | ⟨l, k, hl, hk, rfl, rfl⟩
  · simp (disch := omega) only [↓bnd_i, ↓cal_s, ↓cal_n, ↓cal2_s, ↓cal2_n, cal_s, cal2_s, ↓reduceIte, fa_lit, m1_lit, m2_lit, m1_lt, m2_lt, m1_eq, m2_eq, m1_le, m2_le, le_m1, le_m2, lt_m1, lt_m2, m12, m21, m1_m1, n_lt, n_le, n_eq, lt_t, lt_f, le_t, le_f, eq_t, eq_f, n_cl, inb_ok, n_add, pk_mul, pk_sub, n_rem, n_div, n_dec, n_mx, n_mn, eq_m1, eq_m2, ss_same, ss_ne, ss_r, ss_l, sr_f, sr_l, sr_same, sr_ne, sw_f, sw_l, sw_at, sw_ne, pk_us, pk_un, bI_t, bI_f, not_true_eq_false, not_false_eq_true, eq_self, and_true, true_and, and_false, false_and, or_true, true_or, or_false, false_or, decide_true, decide_false, Bool.false_eq_true, Bool.true_eq_false, ↓cal_w (d_conditionOfN C.1 C.2 hx), d_conditionOfN C.1 C.2 hx, ↓cal_w (t_hasPieceN C.1 hx), t_hasPieceN C.1 hx]
    exact (Op.same C _).toX
  · have hkp := C.1.2.2.1.1 l k (by omega) hk
    have w1 := d_conditionOf (F := F) C.1 C.2 hl hk
    have w2 := t_hasPiece (F := F) C.1 hl (show k < 2 ^ 31 by omega)
    rw [decide_eq_true hk, Bool.true_and] at w2
    cases d : hp (nw τ) l k
    · rw [d] at w1 w2
      simp only [Bool.false_eq_true, if_false] at w1
      simp (disch := omega) only [↓bnd_i, ↓cal_s, ↓cal_n, ↓cal2_s, ↓cal2_n, cal_s, cal2_s, ↓reduceIte, fa_lit, m1_lit, m2_lit, m1_lt, m2_lt, m1_eq, m2_eq, m1_le, m2_le, le_m1, le_m2, lt_m1, lt_m2, m12, m21, m1_m1, n_lt, n_le, n_eq, lt_t, lt_f, le_t, le_f, eq_t, eq_f, n_cl, inb_ok, n_add, pk_mul, pk_sub, n_rem, n_div, n_dec, n_mx, n_mn, eq_m1, eq_m2, ss_same, ss_ne, ss_r, ss_l, sr_f, sr_l, sr_same, sr_ne, sw_f, sw_l, sw_at, sw_ne, pk_us, pk_un, bI_t, bI_f, not_true_eq_false, not_false_eq_true, eq_self, and_true, true_and, and_false, false_and, or_true, true_or, or_false, false_or, decide_true, decide_false, Bool.false_eq_true, Bool.true_eq_false, ↓cal_w (w1), w1, ↓cal_w (w2), w2]
      exact (Op.same C _).toX
    · rw [d] at w1 w2
      simp only [if_true] at w1
      have w3 := t_keptOf (F := F) C.1 (show l < 8 by omega) hk
      by_cases z : kp (nw τ) l k = 0
      · rw [z] at w1 w3
        simp (disch := omega) only [↓bnd_i, ↓cal_s, ↓cal_n, ↓cal2_s, ↓cal2_n, cal_s, cal2_s, ↓reduceIte, fa_lit, m1_lit, m2_lit, m1_lt, m2_lt, m1_eq, m2_eq, m1_le, m2_le, le_m1, le_m2, lt_m1, lt_m2, m12, m21, m1_m1, n_lt, n_le, n_eq, lt_t, lt_f, le_t, le_f, eq_t, eq_f, n_cl, inb_ok, n_add, pk_mul, pk_sub, n_rem, n_div, n_dec, n_mx, n_mn, eq_m1, eq_m2, ss_same, ss_ne, ss_r, ss_l, sr_f, sr_l, sr_same, sr_ne, sw_f, sw_l, sw_at, sw_ne, pk_us, pk_un, bI_t, bI_f, not_true_eq_false, not_false_eq_true, eq_self, and_true, true_and, and_false, false_and, or_true, true_or, or_false, false_or, decide_true, decide_false, Bool.false_eq_true, Bool.true_eq_false, ↓cal_w (w1), w1, ↓cal_w (w2), w2, ↓cal_w (w3), w3]
        exact (Op.same C _).toX
      · have hg : nl (nw τ) - 1 < nl (nw τ) := by omega
        have h3 : τ.2.1 19 3 = nI (nl (nw τ) - 1) := C.1.1.2.2.2.1
        have hnk : τ.2.1 19 (420 + 120 * l + k) = nI (kp (nw τ) l k) := hkp.1
        obtain ⟨t, k1, k2, k3⟩ := d_reachOf (F := F) hF C.1 C.2 hg
        obtain ⟨u, g1, g2, g3⟩ := t_reachOf (F := F) hF C.1 hg
        have s1 := d_setCondition (F := F) C.1 k2 hl hk (v := 0) (by omega)
        rw [d] at s1
        simp only [if_true] at s1
        generalize hM : upd (nw τ) (420 + 120 * l + k) (nI 0) = M
        have nM : NN M := by rw [← hM]; exact NN_kp C.1 hl hk (by omega)
        have jM : JJ (sr t 18 (l * 120 + k) (nI 0)) M := by rw [← hM]; exact JJ_kp C.1 k2 hl hk (by omega)
        have low : ∀ j, j < 420 → M j = nw τ j := fun j hj => by rw [← hM]; exact kp_low hj
        have nlM : nl M = nl (nw τ) := by unfold nl; rw [low 2 (by omega)]
        have hpM : hp M l k = true := by
          rw [← d]
          unfold hp fk tp wd
          rw [low 1 (by omega), low (20 + 4 * l) (by omega), low (20 + 4 * l + 2) (by omega)]
        obtain ⟨t2, k4, k5, k6⟩ := d_reachOf (F := F) hF nM jM (l := nl (nw τ) - 1) (by omega)
        have s2 := d_setCondition (F := F) nM k5 (show l < nl M by omega) hk (v := kp (nw τ) l k) hkp.2
        rw [hpM] at s2
        simp only [if_true] at s2
        have u1 : nw (sr u 19 (420 + 120 * l + k) (nI 0)) = M := by
          show (sr u 19 (420 + 120 * l + k) (nI 0)).2.1 19 = M
          rw [sr_same, show u.2.1 19 = nw τ from g3]; exact hM
        obtain ⟨u2, g4, g5, g6⟩ := t_reachOf (F := F) hF (τ := sr u 19 (420 + 120 * l + k) (nI 0)) (l := nl (nw τ) - 1) (by rw [u1]; exact nM) (by rw [u1]; omega)
        rw [u1] at g4 g6
        have u3 : M 3 = nI (nl (nw τ) - 1) := by rw [low 3 (by omega)]; exact h3
        have u3' : u.2.1 19 3 = nI (nl (nw τ) - 1) := by rw [show u.2.1 19 = nw τ from g3]; exact h3
        have back : upd M (420 + 120 * l + k) (nI (kp (nw τ) l k)) = nw τ := by
          rw [← hM, upd_twice, upd_self hkp.1]
        have jB : JJ (sr t2 18 (l * 120 + k) (nI (kp (nw τ) l k))) (nw τ) := by
          have := JJ_kp nM k5 (show l < nl M by omega) hk hkp.2
          rw [back] at this
          exact this
        have hk4 := hkp.2
        simp (disch := omega) only [↓bnd_i, ↓cal_s, ↓cal_n, ↓cal2_s, ↓cal2_n, cal_s, cal2_s, ↓reduceIte, fa_lit, m1_lit, m2_lit, m1_lt, m2_lt, m1_eq, m2_eq, m1_le, m2_le, le_m1, le_m2, lt_m1, lt_m2, m12, m21, m1_m1, n_lt, n_le, n_eq, lt_t, lt_f, le_t, le_f, eq_t, eq_f, n_cl, inb_ok, n_add, pk_mul, pk_sub, n_rem, n_div, n_dec, n_mx, n_mn, eq_m1, eq_m2, ss_same, ss_ne, ss_r, ss_l, sr_f, sr_l, sr_same, sr_ne, sw_f, sw_l, sw_at, sw_ne, pk_us, pk_un, bI_t, bI_f, not_true_eq_false, not_false_eq_true, eq_self, and_true, true_and, and_false, false_and, or_true, true_or, or_false, false_or, decide_true, decide_false, Bool.false_eq_true, Bool.true_eq_false, ↓cal_w (w1), w1, ↓cal_w (w2), w2, ↓cal_w (w3), w3, ↓cal_w (d_going C.1 C.2), d_going C.1 C.2, ↓cal_w (s1), s1, ↓cal_w (s2), s2, ↓cal2_w (k1), k1, ↓cal2_w (g1), g1, ↓cal2_w (k4), k4, ↓cal2_w (g4), g4, h3, hnk, u3']
        refine opX C jB ?_ ?_ ?_ _
        · exact ((k3.sr (by omega) (by omega)).trans k6).sr (by omega) (by omega)
        · exact (g2.sr (by omega) (by omega)).trans (g5.sr (by omega) (by omega))
        · show (sr u2 19 (420 + 120 * l + k) (nI (kp (nw τ) l k))).2.1 19 = nw τ
          rw [sr_same, show u2.2.1 19 = M from g6]
          exact back
