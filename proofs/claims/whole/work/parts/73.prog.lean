/-! PURE: the program that a text is -/
section
variable {F : Nat} {kd vl pl : Nat → Nat} {e : Nat} {ps dp : Nat → Nat}
def Mate (kd ps dp : Nat → Nat) (m : Nat → Int32) (d x : Nat) : Prop := d < x ∧ kd (ps d) = 12 ∧ kd (ps x) = 13 ∧ m d = nI x ∧ m x = nI d ∧ dp x = dp d + 1 ∧ ∀ j, d < j → j ≤ x → dp d < dp j
def PT (F : Nat) (kd vl ps dp : Nat → Nat) (c : Nat) (τ : St) (k : Nat) : Prop := τ.2.1 8 k = nI (kd (ps k) - 2) ∧ (2 ≤ kd (ps k) ∧ kd (ps k) ≤ 13) ∧ (ps k < ps (k + 1) ∧ ∀ j, ps k < j → j < ps (k + 1) → 14 ≤ kd j) ∧ dp k ≤ 3 ∧ (kd (ps k) = 12 → dp k < 3 ∧ ps (k + 1) = ps k + 3 ∧ kd (ps k + 1) = 20 ∧ τ.2.1 10 k = nI (vl (ps k + 1))) ∧ (kd (ps k) = 13 → 1 ≤ dp k ∧ ps (k + 1) = ps k + 2) ∧ (kd (ps k) ≤ 11 → ps (k + 1) = qF F kd vl (ps k) (agN (kd (ps k) - 2)) + 1 ∧ EXs F kd vl k c 0 (agN (kd (ps k) - 2)) (qF F kd vl (ps k)) τ)
theorem PT_keep {c c' K k : Nat} {τ τ' : St} (h : PT F kd vl ps dp c τ k) (hk : k < K) (h8 : τ'.2.1 8 k = τ.2.1 8 k) (h10 : τ'.2.1 10 k = τ.2.1 10 k) (h9 : ∀ j, j < 4 * K → τ'.2.1 9 j = τ.2.1 9 j) (hc : ∀ i, i < c → τ'.2.1 13 i = τ.2.1 13 i ∧ τ'.2.1 14 i = τ.2.1 14 i) (hcc : c ≤ c') : PT F kd vl ps dp c' τ' k := by
  obtain ⟨p1, p2, p3, p4, p5, p6, p7⟩ := h
  refine ⟨h8.trans p1, p2, p3, p4, fun q => ?_, p6, fun q => ⟨(p7 q).1, fun j x1 x2 => ?_⟩⟩
  · obtain ⟨y1, y2, y3, y4⟩ := p5 q
    exact ⟨y1, y2, y3, h10.trans y4⟩
  · have hag := ag_le (kd (ps k) - 2) (by omega)
    obtain ⟨cd, c1, y1, y2, y3, y4, y5⟩ := (p7 q).2 j x1 x2
    exact ⟨cd, c1, y1, by rw [h9 _ (by omega)]; exact y2, by rw [h9 _ (by omega)]; exact y3, by omega, cdR_cong (fun i h1 h2 => hc i (by omega)) y5⟩
def OpR (kd ps dp : Nat → Nat) (K : Nat) : List Nat → Prop
  | [] => True
  | d :: r => d < K ∧ kd (ps d) = 12 ∧ dp d = r.length ∧ (∀ j, d < j → j ≤ K → r.length < dp j) ∧ OpR kd ps dp K r
theorem OpR_up {K : Nat} : ∀ {ob : List Nat}, OpR kd ps dp K ob → ob.length ≤ dp (K + 1) → OpR kd ps dp (K + 1) ob
  | [], _, _ => trivial
  | d :: r, h, hl => by
    have hl' : r.length + 1 ≤ dp (K + 1) := hl
    refine ⟨by have := h.1; omega, h.2.1, h.2.2.1, fun j h1 h2 => ?_, OpR_up h.2.2.2.2 (by omega)⟩
    by_cases c : j = K + 1
    · rw [c]; omega
    · exact h.2.2.2.1 j h1 (by omega)
/-- what holds behind K tells -/
def GS (F : Nat) (kd vl pl : Nat → Nat) (e : Nat) (ps dp : Nat → Nat) (K c : Nat) (ob : List Nat) (τ : St) : Prop := (TkM kd vl pl e τ ∧ τ.1 6 = nI 0 ∧ τ.1 4 = nI (ps K) ∧ τ.1 5 = nI 0 ∧ τ.1 11 = nI K ∧ τ.1 12 = nI (dp K) ∧ τ.1 13 = nI c ∧ c ≤ ps K) ∧ (ps K ≤ e ∧ ps K ≤ 400 ∧ 2 * K ≤ ps K) ∧ (WR kd vl pl (ps K) τ) ∧ (wsR (τ.2.1 12) ob ∧ ob.length = dp K ∧ dp K ≤ 3 ∧ OpR kd ps dp K ob) ∧ (∀ k, k < K → PT F kd vl ps dp c τ k) ∧ (∀ d, d < K → kd (ps d) = 12 → d ∈ ob ∨ ∃ x, x < K ∧ Mate kd ps dp (τ.2.1 11) d x) ∧ (∀ x, x < K → kd (ps x) = 13 → ∃ d, Mate kd ps dp (τ.2.1 11) d x)
def FmP (τ τ' : St) : Prop := (∀ k, k < 4 ∨ k = 10 ∨ 14 < k → τ'.1 k = τ.1 k) ∧ (∀ r, r < 8 ∨ 15 < r → τ'.2.1 r = τ.2.1 r) ∧ τ'.2.2 = τ.2.2
theorem FmP.refl (τ : St) : FmP τ τ := ⟨fun _ _ => rfl, fun _ _ => rfl, rfl⟩
theorem FmP.trans {a b c : St} (h : FmP a b) (k : FmP b c) : FmP a c := ⟨fun i hi => (k.1 i hi).trans (h.1 i hi), fun i hi => (k.2.1 i hi).trans (h.2.1 i hi), k.2.2.trans h.2.2⟩
theorem FmP.ss {τ τ' : St} {k : Nat} {v : Int32} (h : FmP τ τ') (hk : 4 ≤ k ∧ k ≤ 14 ∧ k ≠ 10) : FmP τ (ss τ' k v) := ⟨fun i hi => (ss_ne (by omega)).trans (h.1 i hi), h.2.1, h.2.2⟩
theorem FmP.sr {τ τ' : St} {a i : Nat} {v : Int32} (h : FmP τ τ') (ha : 8 ≤ a ∧ a ≤ 15) : FmP τ (sr τ' a i v) := ⟨h.1, fun r hr => (sr_ne (by omega)).trans (h.2.1 r hr), h.2.2⟩
theorem FmP.mo {o : Nat × Nat} {τ τ' : St} (h : FmP τ τ') : FmP τ (MO pl o τ') := by
  unfold MO
  split
  · exact h.ss (by omega)
  · exact (h.ss (by omega)).ss (by omega)
theorem FmQ.toP {K c : Nat} {τ τ' : St} (h : FmQ K c τ τ') : FmP τ τ' := ⟨fun k hk => h.1 k (by omega) (by omega) (by omega) (by omega) (by omega) (by omega) (by omega), fun r hr => h.2.1 r (by omega), h.2.2.2.2⟩
theorem in_b {F : Nat} {τ : St} {x : Int32} (h : x < nI 0) {b : Nat} (hb : b < 2 ^ 31) : f_X8_in F τ x (nI 0) (nI b) = some (nI 0) := by
  rw [f_in (by omega) hb, decide_eq_false (fun q => neg_nle h (by omega) q.1)]; rfl
/-- the model's tell begins: what it is of -/
theorem t_tell70 {τ : St} {K a m D : Nat} (h6 : τ.1 6 = nI 0) (h4 : τ.1 4 = nI a) (ha : a ≤ 400) (h11 : τ.1 11 = nI K) (h12 : τ.1 12 = nI D) (hD : D ≤ 3) (K0 : MK kd vl pl a m τ) (hk : 2 ≤ kd a ∧ kd a ≤ 13) (h10 : kd a = 12 → D < 3) (h13 : kd a = 13 → 0 < D) : f_X8_tellOne F τ = f_X8_tellOne_70 F τ (nI K) (nI (kd a - 2)) := by
  have hm := K0.w (by omega)
  have k3 := K0.1
  have e22 : m - 22 = kd a - 2 := by omega
  have ii := in_nn (F := F) (τ := τ) (a := 0) (b := 11) (x := kd a - 2) (by omega) (by omega) (by omega)
  rw [decide_eq_true (show 0 ≤ kd a - 2 ∧ kd a - 2 ≤ 11 by omega)] at ii
  unfold f_X8_tellOne f_X8_tellOne_33 f_X8_tellOne_52
  by_cases c12 : kd a = 12
  · have := h10 c12
    simp (disch := omega) only [↓bnd_i, ↓cal_s, ↓cal_n, ↓cal2_s, ↓cal2_n, cal_s, cal2_s, ↓reduceIte, fa_lit, m1_lit, m2_lit, m1_lt, m2_lt, m1_eq, m2_eq, m1_le, m2_le, le_m1, le_m2, lt_m1, lt_m2, m12, m21, m1_m1, n_lt, n_le, n_eq, lt_t, lt_f, le_t, le_f, eq_t, eq_f, n_cl, inb_ok, n_add, pk_mul, pk_sub, n_rem, n_div, n_dec, n_mx, n_mn, eq_m1, eq_m2, ss_same, ss_ne, ss_r, ss_l, sr_f, sr_l, sr_same, sr_ne, sw_f, sw_l, sw_at, sw_ne, pk_us, pk_un, bI_t, bI_f, not_true_eq_false, not_false_eq_true, eq_self, and_true, true_and, and_false, false_and, or_true, true_or, or_false, false_or, decide_true, decide_false, Bool.false_eq_true, Bool.true_eq_false, ↓cal_w (ii), ii, h11, h4, k3, e22, h12]
  · by_cases c13 : kd a = 13
    · have := h13 c13
      simp (disch := omega) only [↓bnd_i, ↓cal_s, ↓cal_n, ↓cal2_s, ↓cal2_n, cal_s, cal2_s, ↓reduceIte, fa_lit, m1_lit, m2_lit, m1_lt, m2_lt, m1_eq, m2_eq, m1_le, m2_le, le_m1, le_m2, lt_m1, lt_m2, m12, m21, m1_m1, n_lt, n_le, n_eq, lt_t, lt_f, le_t, le_f, eq_t, eq_f, n_cl, inb_ok, n_add, pk_mul, pk_sub, n_rem, n_div, n_dec, n_mx, n_mn, eq_m1, eq_m2, ss_same, ss_ne, ss_r, ss_l, sr_f, sr_l, sr_same, sr_ne, sw_f, sw_l, sw_at, sw_ne, pk_us, pk_un, bI_t, bI_f, not_true_eq_false, not_false_eq_true, eq_self, and_true, true_and, and_false, false_and, or_true, true_or, or_false, false_or, decide_true, decide_false, Bool.false_eq_true, Bool.true_eq_false, ↓cal_w (ii), ii, h11, h4, k3, e22, h12]
    · simp (disch := omega) only [↓bnd_i, ↓cal_s, ↓cal_n, ↓cal2_s, ↓cal2_n, cal_s, cal2_s, ↓reduceIte, fa_lit, m1_lit, m2_lit, m1_lt, m2_lt, m1_eq, m2_eq, m1_le, m2_le, le_m1, le_m2, lt_m1, lt_m2, m12, m21, m1_m1, n_lt, n_le, n_eq, lt_t, lt_f, le_t, le_f, eq_t, eq_f, n_cl, inb_ok, n_add, pk_mul, pk_sub, n_rem, n_div, n_dec, n_mx, n_mn, eq_m1, eq_m2, ss_same, ss_ne, ss_r, ss_l, sr_f, sr_l, sr_same, sr_ne, sw_f, sw_l, sw_at, sw_ne, pk_us, pk_un, bI_t, bI_f, not_true_eq_false, not_false_eq_true, eq_self, and_true, true_and, and_false, false_and, or_true, true_or, or_false, false_or, decide_true, decide_false, Bool.false_eq_true, Bool.true_eq_false, ↓cal_w (ii), ii, h11, h4, k3, e22, h12]
/-- or the fault at its first word -/
theorem t_tell1 {τ : St} {K a m D : Nat} (h6 : τ.1 6 = nI 0) (h4 : τ.1 4 = nI a) (ha : a ≤ 400) (h11 : τ.1 11 = nI K) (h12 : τ.1 12 = nI D) (hD : D ≤ 3) (K0 : MK kd vl pl a m τ) (x : Nat) (hx : (x = 1 ∧ ¬ (2 ≤ kd a ∧ kd a ≤ 13)) ∨ (x = 2 ∧ kd a = 12 ∧ D = 3) ∨ (x = 1 ∧ kd a = 13 ∧ D = 0)) : f_X8_tellOne F τ = some (ss (ss τ 6 (nI x)) 7 (nI (pl a))) := by
  have k3 := K0.1
  have k50 := K0.2.1
  have fl := t_fail0 (F := F) (x := x) h6 h4 ha K0
  have x6 : (ss (ss τ 6 (nI x)) 7 (nI (pl a))).1 6 = nI x := by rw [ss_ne (by omega), ss_same]
  have x12 : (ss (ss τ 6 (nI x)) 7 (nI (pl a))).1 12 = nI D := by rw [ss_ne (by omega), ss_ne (by omega)]; exact h12
  generalize hy : ss (ss τ 6 (nI x)) 7 (nI (pl a)) = y at *
  rcases hx with ⟨rfl, h⟩ | ⟨rfl, h, h3⟩ | ⟨rfl, h, h3⟩
  · have out : f_X8_in F τ (nI m - nI 22) (nI 0) (nI 11) = some (nI 0) ∧ ¬ nI m - nI 22 = nI 10 ∧ ¬ nI m - nI 22 = nI 11 := by
      by_cases c : m < 22
      · have neg : nI m - nI 22 < nI 0 := by
          rw [Int32.lt_iff_toInt_lt, pk_sub_toInt (by omega) (by omega), nI_toInt (by omega)]
          omega
        exact ⟨in_b neg (by omega), neg_ne neg (by omega), neg_ne neg (by omega)⟩
      · have c20 : kd a < 20 := by
          by_cases z : kd a < 20
          · exact z
          · have := K0.n z; omega
        have hm := K0.w c20
        rw [pk_sub (by omega), in_nn (by omega) (by omega) (by omega), decide_eq_false (by omega), n_eq (by omega) (by omega), n_eq (by omega) (by omega)]
        exact ⟨rfl, by omega, by omega⟩
    obtain ⟨o1, o2, o3⟩ := out
    have r70 : f_X8_tellOne_70 F y (nI K) (nI m - nI 22) = some y := by
      unfold f_X8_tellOne_70
      simp (disch := omega) only [↓bnd_i, ↓cal_s, ↓cal_n, ↓cal2_s, ↓cal2_n, cal_s, cal2_s, ↓reduceIte, fa_lit, m1_lit, m2_lit, m1_lt, m2_lt, m1_eq, m2_eq, m1_le, m2_le, le_m1, le_m2, lt_m1, lt_m2, m12, m21, m1_m1, n_lt, n_le, n_eq, lt_t, lt_f, le_t, le_f, eq_t, eq_f, n_cl, inb_ok, n_add, pk_mul, pk_sub, n_rem, n_div, n_dec, n_mx, n_mn, eq_m1, eq_m2, ss_same, ss_ne, ss_r, ss_l, sr_f, sr_l, sr_same, sr_ne, sw_f, sw_l, sw_at, sw_ne, pk_us, pk_un, bI_t, bI_f, not_true_eq_false, not_false_eq_true, eq_self, and_true, true_and, and_false, false_and, or_true, true_or, or_false, false_or, decide_true, decide_false, Bool.false_eq_true, Bool.true_eq_false, x6]
    generalize hz : nI m - nI 22 = z at *
    unfold f_X8_tellOne f_X8_tellOne_33 f_X8_tellOne_52
    rw [h11, bnd_i, h4, if_pos (inb_ok (by omega) (by omega)), bnd_i, n_cl (by omega), k3, show (22 : Int32) = nI 22 from rfl, hz]
    rw [show (0 : Int32) = nI 0 from rfl, show (11 : Int32) = nI 11 from rfl, show (10 : Int32) = nI 10 from rfl, show (1 : Int32) = nI 1 from rfl, cal_w o1, if_pos rfl, cal_w fl, if_neg o2, if_neg o3]
    exact r70
  · have hm := K0.w (by omega)
    have e22 : m - 22 = 10 := by omega
    have ii := in_nn (F := F) (τ := τ) (a := 0) (b := 11) (x := 10) (by omega) (by omega) (by omega)
    rw [decide_eq_true (by omega)] at ii
    have r70 : f_X8_tellOne_70 F y (nI K) (nI 10) = some y := by
      unfold f_X8_tellOne_70
      simp (disch := omega) only [↓bnd_i, ↓cal_s, ↓cal_n, ↓cal2_s, ↓cal2_n, cal_s, cal2_s, ↓reduceIte, fa_lit, m1_lit, m2_lit, m1_lt, m2_lt, m1_eq, m2_eq, m1_le, m2_le, le_m1, le_m2, lt_m1, lt_m2, m12, m21, m1_m1, n_lt, n_le, n_eq, lt_t, lt_f, le_t, le_f, eq_t, eq_f, n_cl, inb_ok, n_add, pk_mul, pk_sub, n_rem, n_div, n_dec, n_mx, n_mn, eq_m1, eq_m2, ss_same, ss_ne, ss_r, ss_l, sr_f, sr_l, sr_same, sr_ne, sw_f, sw_l, sw_at, sw_ne, pk_us, pk_un, bI_t, bI_f, not_true_eq_false, not_false_eq_true, eq_self, and_true, true_and, and_false, false_and, or_true, true_or, or_false, false_or, decide_true, decide_false, Bool.false_eq_true, Bool.true_eq_false, x6]
    unfold f_X8_tellOne f_X8_tellOne_33 f_X8_tellOne_52
    simp (disch := omega) only [↓bnd_i, ↓cal_s, ↓cal_n, ↓cal2_s, ↓cal2_n, cal_s, cal2_s, ↓reduceIte, fa_lit, m1_lit, m2_lit, m1_lt, m2_lt, m1_eq, m2_eq, m1_le, m2_le, le_m1, le_m2, lt_m1, lt_m2, m12, m21, m1_m1, n_lt, n_le, n_eq, lt_t, lt_f, le_t, le_f, eq_t, eq_f, n_cl, inb_ok, n_add, pk_mul, pk_sub, n_rem, n_div, n_dec, n_mx, n_mn, eq_m1, eq_m2, ss_same, ss_ne, ss_r, ss_l, sr_f, sr_l, sr_same, sr_ne, sw_f, sw_l, sw_at, sw_ne, pk_us, pk_un, bI_t, bI_f, not_true_eq_false, not_false_eq_true, eq_self, and_true, true_and, and_false, false_and, or_true, true_or, or_false, false_or, decide_true, decide_false, Bool.false_eq_true, Bool.true_eq_false, ↓cal_w (ii), ii, ↓cal_w (fl), fl, h11, h4, k3, e22, h12, h3]
    exact r70
  · have hm := K0.w (by omega)
    have e22 : m - 22 = 11 := by omega
    have ii := in_nn (F := F) (τ := τ) (a := 0) (b := 11) (x := 11) (by omega) (by omega) (by omega)
    rw [decide_eq_true (by omega)] at ii
    have r70 : f_X8_tellOne_70 F y (nI K) (nI 11) = some y := by
      unfold f_X8_tellOne_70
      simp (disch := omega) only [↓bnd_i, ↓cal_s, ↓cal_n, ↓cal2_s, ↓cal2_n, cal_s, cal2_s, ↓reduceIte, fa_lit, m1_lit, m2_lit, m1_lt, m2_lt, m1_eq, m2_eq, m1_le, m2_le, le_m1, le_m2, lt_m1, lt_m2, m12, m21, m1_m1, n_lt, n_le, n_eq, lt_t, lt_f, le_t, le_f, eq_t, eq_f, n_cl, inb_ok, n_add, pk_mul, pk_sub, n_rem, n_div, n_dec, n_mx, n_mn, eq_m1, eq_m2, ss_same, ss_ne, ss_r, ss_l, sr_f, sr_l, sr_same, sr_ne, sw_f, sw_l, sw_at, sw_ne, pk_us, pk_un, bI_t, bI_f, not_true_eq_false, not_false_eq_true, eq_self, and_true, true_and, and_false, false_and, or_true, true_or, or_false, false_or, decide_true, decide_false, Bool.false_eq_true, Bool.true_eq_false, x6]
    unfold f_X8_tellOne f_X8_tellOne_33 f_X8_tellOne_52
    simp (disch := omega) only [↓bnd_i, ↓cal_s, ↓cal_n, ↓cal2_s, ↓cal2_n, cal_s, cal2_s, ↓reduceIte, fa_lit, m1_lit, m2_lit, m1_lt, m2_lt, m1_eq, m2_eq, m1_le, m2_le, le_m1, le_m2, lt_m1, lt_m2, m12, m21, m1_m1, n_lt, n_le, n_eq, lt_t, lt_f, le_t, le_f, eq_t, eq_f, n_cl, inb_ok, n_add, pk_mul, pk_sub, n_rem, n_div, n_dec, n_mx, n_mn, eq_m1, eq_m2, ss_same, ss_ne, ss_r, ss_l, sr_f, sr_l, sr_same, sr_ne, sw_f, sw_l, sw_at, sw_ne, pk_us, pk_un, bI_t, bI_f, not_true_eq_false, not_false_eq_true, eq_self, and_true, true_and, and_false, false_and, or_true, true_or, or_false, false_or, decide_true, decide_false, Bool.false_eq_true, Bool.true_eq_false, ↓cal_w (ii), ii, ↓cal_w (fl), fl, h11, h4, k3, e22, h12, h3]
    exact r70
theorem nxO_1 {a : Nat} (h : (nxO a).1 = 0) : a < 400 ∧ (nxO a).2 = a + 1 := by
  unfold nxO at h ⊢
  by_cases c : a < 400
  · rw [if_pos c]; exact ⟨c, rfl⟩
  · rw [if_neg c] at h; cases h
theorem exO_1 {t a : Nat} (h : (exO kd t a).1 = 0) : kd a = t ∧ a < 400 ∧ (exO kd t a).2 = a + 1 := by
  unfold exO at h ⊢
  by_cases c : kd a = t
  · rw [if_pos c] at h ⊢; exact ⟨c, nxO_1 h⟩
  · rw [if_neg c] at h; cases h
theorem MO_k {o : Nat × Nat} {τ : St} {k : Nat} (h : k ≠ 4 ∧ k ≠ 6 ∧ k ≠ 7) : (MO pl o τ).1 k = τ.1 k := by
  unfold MO
  split
  · exact ss_ne h.1
  · rw [ss_ne h.2.2, ss_ne h.2.1]
theorem MO_r {o : Nat × Nat} {τ : St} : (MO pl o τ).2 = τ.2 := by
  unfold MO
  split <;> rfl
end
