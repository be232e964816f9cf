/-! PURE: the model's tell -/
section
variable {F : Nat} {kd vl pl : Nat → Nat} {e : Nat}
theorem t_termsOf : ∀ s, s < 10 → ∀ (F : Nat) (τ : St), f_X8_termsOf F τ (nI s) = some (nI (agN s)) := by
  intro s hs F τ
  unfold f_X8_termsOf
  rcases (show s = 0 ∨ s = 1 ∨ s = 2 ∨ s = 3 ∨ s = 4 ∨ s = 5 ∨ s = 6 ∨ s = 7 ∨ s = 8 ∨ s = 9 by omega) with rfl | rfl | rfl | rfl | rfl | rfl | rfl | rfl | rfl | rfl <;> simp (disch := omega) only [↓bnd_i, ↓cal_s, ↓cal_n, ↓cal2_s, ↓cal2_n, cal_s, cal2_s, ↓reduceIte, fa_lit, m1_lit, m2_lit, m1_lt, m2_lt, m1_eq, m2_eq, m1_le, m2_le, le_m1, le_m2, lt_m1, lt_m2, m12, m21, m1_m1, n_lt, n_le, n_eq, lt_t, lt_f, le_t, le_f, eq_t, eq_f, n_cl, inb_ok, n_add, pk_mul, pk_sub, n_rem, n_div, n_dec, n_mx, n_mn, eq_m1, eq_m2, ss_same, ss_ne, ss_r, ss_l, sr_f, sr_l, sr_same, sr_ne, sw_f, sw_l, sw_at, sw_ne, pk_us, pk_un, bI_t, bI_f, not_true_eq_false, not_false_eq_true, eq_self, and_true, true_and, and_false, false_and, or_true, true_or, or_false, false_or, decide_true, decide_false, Bool.false_eq_true, Bool.true_eq_false] <;> rfl
/-- what a tell of the model leaves as it is -/
def FmQ (K c : Nat) (τ τ' : St) : Prop := (∀ k, k ≠ 4 → k ≠ 5 → k ≠ 6 → k ≠ 7 → k ≠ 11 → k ≠ 13 → k ≠ 14 → τ'.1 k = τ.1 k) ∧ (∀ r, r < 9 ∨ (9 < r ∧ r < 13) ∨ 15 < r → τ'.2.1 r = τ.2.1 r) ∧ (∀ i, i < c → τ'.2.1 13 i = τ.2.1 13 i ∧ τ'.2.1 14 i = τ.2.1 14 i) ∧ (∀ j, j < 4 * K → τ'.2.1 9 j = τ.2.1 9 j) ∧ τ'.2.2 = τ.2.2
theorem FmQ.trans {K c c' : Nat} {a b d : St} (h : FmQ K c a b) (hc : c ≤ c') (k : FmQ K c' b d) : FmQ K c a d := ⟨fun i h1 h2 h3 h4 h5 h6 h7 => (k.1 i h1 h2 h3 h4 h5 h6 h7).trans (h.1 i h1 h2 h3 h4 h5 h6 h7), fun i hi => (k.2.1 i hi).trans (h.2.1 i hi), fun i hi => ⟨(k.2.2.1 i (by omega)).1.trans (h.2.2.1 i hi).1, (k.2.2.1 i (by omega)).2.trans (h.2.2.1 i hi).2⟩, fun j hj => (k.2.2.2.1 j hj).trans (h.2.2.2.1 j hj), k.2.2.2.2.trans h.2.2.2.2⟩
theorem FmE.toQ {K c : Nat} {τ τ' : St} (h : FmE c τ τ') : FmQ K c τ τ' := ⟨fun k h1 h2 h3 h4 _ h6 h7 => h.1 k h1 h2 h3 h4 h6 h7, fun r hr => h.2.1 r (by omega), h.2.2.1, fun j _ => by rw [h.2.1 9 (by omega)], h.2.2.2⟩
theorem FmQ.sw9 {K c i : Nat} {τ : St} {v : Int32} (hi : 4 * K ≤ i) : FmQ K c τ (sr τ 9 i v) := ⟨fun _ _ _ _ _ _ _ _ => rfl, fun r hr => sr_ne (by omega), fun j _ => by rw [sr_ne (by omega), sr_ne (by omega)]; exact ⟨rfl, rfl⟩, fun j hj => by rw [sr_same, pk_un (by omega)], rfl⟩
theorem FmQ.ss {K c k : Nat} {τ τ' : St} {v : Int32} (h : FmQ K c τ τ') (hk : k = 4 ∨ k = 5 ∨ k = 6 ∨ k = 7 ∨ k = 11 ∨ k = 13 ∨ k = 14) : FmQ K c τ (ss τ' k v) := ⟨fun i h1 h2 h3 h4 h5 h6 h7 => (ss_ne (by omega)).trans (h.1 i h1 h2 h3 h4 h5 h6 h7), h.2.1, h.2.2.1, h.2.2.2.1, h.2.2.2.2⟩
theorem FmQ.refl {K c : Nat} (τ : St) : FmQ K c τ τ := ⟨fun _ _ _ _ _ _ _ _ => rfl, fun _ _ => rfl, fun _ _ => ⟨rfl, rfl⟩, fun _ _ => rfl, rfl⟩
theorem FmQ.mo {K c : Nat} {o : Nat × Nat} {τ τ' : St} (h : FmQ K c τ τ') : FmQ K c τ (MO pl o τ') := by
  unfold MO
  split
  · exact h.ss (by omega)
  · exact (h.ss (by omega)).ss (by omega)
/-- in a fault -/
theorem t_182F {K s x : Nat} (hK : K < 209) (hs : s < 10) : ∀ (n i : Nat) (τ : St), τ.1 6 = nI x → 1 ≤ x ∧ x ≤ 5 → τ.1 11 = nI K → i ≤ 4 → 4 - i < n → ∃ τ', f_X8_tellOne_182 F n τ (nI K) (nI s) (nI i) = some τ' ∧ (∀ c, FmQ K c τ τ') ∧ τ'.1 6 = nI x ∧ τ'.1 7 = τ.1 7 ∧ τ'.1 11 = nI (K + 1) := by
  intro n
  induction n with
  | zero => intro i τ _ _ _ _ h; omega
  | succ n ih =>
    intro i τ h6 h0 h11 hi hn
    rw [f_X8_tellOne_182]
    by_cases c : i = 4
    · have mu := t_mustF (F := F) (y := nI 4) h6 h0
      refine ⟨ss τ 11 (nI (K + 1)), ?_, fun c => (FmQ.refl τ).ss (by omega), by rw [ss_ne (by omega)]; exact h6, ss_ne (by omega), ss_same⟩
      simp (disch := omega) only [↓bnd_i, ↓cal_s, ↓cal_n, ↓cal2_s, ↓cal2_n, cal_s, cal2_s, ↓reduceIte, fa_lit, m1_lit, m2_lit, m1_lt, m2_lt, m1_eq, m2_eq, m1_le, m2_le, le_m1, le_m2, lt_m1, lt_m2, m12, m21, m1_m1, n_lt, n_le, n_eq, lt_t, lt_f, le_t, le_f, eq_t, eq_f, n_cl, inb_ok, n_add, pk_mul, pk_sub, n_rem, n_div, n_dec, n_mx, n_mn, eq_m1, eq_m2, ss_same, ss_ne, ss_r, ss_l, sr_f, sr_l, sr_same, sr_ne, sw_f, sw_l, sw_at, sw_ne, pk_us, pk_un, bI_t, bI_f, not_true_eq_false, not_false_eq_true, eq_self, and_true, true_and, and_false, false_and, or_true, true_or, or_false, false_or, decide_true, decide_false, Bool.false_eq_true, Bool.true_eq_false, ↓cal_w (mu), mu, h11]
    · have tt := t_termsOf s hs F (sr τ 9 (4 * K + i) (τ.1 13))
      have hag := ag_le s hs
      obtain ⟨τ', g1, g2, g3, g4, g5⟩ := ih (i + 1) (sr τ 9 (4 * K + i) (τ.1 13)) h6 h0 h11 (by omega) (by omega)
      refine ⟨τ', ?_, fun c => (FmQ.sw9 (by omega)).trans (Nat.le_refl c) (g2 c), g3, g4, g5⟩
      by_cases c2 : agN s ≤ i
      · simp (disch := omega) only [↓bnd_i, ↓cal_s, ↓cal_n, ↓cal2_s, ↓cal2_n, cal_s, cal2_s, ↓reduceIte, fa_lit, m1_lit, m2_lit, m1_lt, m2_lt, m1_eq, m2_eq, m1_le, m2_le, le_m1, le_m2, lt_m1, lt_m2, m12, m21, m1_m1, n_lt, n_le, n_eq, lt_t, lt_f, le_t, le_f, eq_t, eq_f, n_cl, inb_ok, n_add, pk_mul, pk_sub, n_rem, n_div, n_dec, n_mx, n_mn, eq_m1, eq_m2, ss_same, ss_ne, ss_r, ss_l, sr_f, sr_l, sr_same, sr_ne, sw_f, sw_l, sw_at, sw_ne, pk_us, pk_un, bI_t, bI_f, not_true_eq_false, not_false_eq_true, eq_self, and_true, true_and, and_false, false_and, or_true, true_or, or_false, false_or, decide_true, decide_false, Bool.false_eq_true, Bool.true_eq_false, ↓cal_w (tt), tt, f_X8_tellOne_220]
        exact g1
      · simp (disch := omega) only [↓bnd_i, ↓cal_s, ↓cal_n, ↓cal2_s, ↓cal2_n, cal_s, cal2_s, ↓reduceIte, fa_lit, m1_lit, m2_lit, m1_lt, m2_lt, m1_eq, m2_eq, m1_le, m2_le, le_m1, le_m2, lt_m1, lt_m2, m12, m21, m1_m1, n_lt, n_le, n_eq, lt_t, lt_f, le_t, le_f, eq_t, eq_f, n_cl, inb_ok, n_add, pk_mul, pk_sub, n_rem, n_div, n_dec, n_mx, n_mn, eq_m1, eq_m2, ss_same, ss_ne, ss_r, ss_l, sr_f, sr_l, sr_same, sr_ne, sw_f, sw_l, sw_at, sw_ne, pk_us, pk_un, bI_t, bI_f, not_true_eq_false, not_false_eq_true, eq_self, and_true, true_and, and_false, false_and, or_true, true_or, or_false, false_or, decide_true, decide_false, Bool.false_eq_true, Bool.true_eq_false, ↓cal_w (tt), tt, f_X8_tellOne_220, h6]
        exact g1
/-- behind the last expression -/
theorem t_182E {K s b m c : Nat} (hK : K < 209) (hs : s < 10) (hb : b ≤ 400) : ∀ (n i : Nat) (τ : St), τ.1 6 = nI 0 → τ.1 4 = nI b → MK kd vl pl b m τ → τ.1 13 = nI c → τ.1 11 = nI K → agN s ≤ i → i ≤ 4 → 4 - i < n → ∃ τ', f_X8_tellOne_182 F n τ (nI K) (nI s) (nI i) = some (ss (MO pl (exO kd 21 b) τ') 11 (nI (K + 1))) ∧ (∀ c, FmQ K c τ τ') ∧ (∀ k, τ'.1 k = τ.1 k) ∧ (i < 4 → τ'.2.1 9 (4 * K + i) = nI c) ∧ (∀ j, j < 4 * K + i → τ'.2.1 9 j = τ.2.1 9 j) ∧ τ'.2.1 13 = τ.2.1 13 ∧ τ'.2.1 14 = τ.2.1 14 := by
  intro n
  induction n with
  | zero => intro i τ _ _ _ _ _ _ _ h; omega
  | succ n ih =>
    intro i τ h6 h4 M h13 h11 ha hi hn
    rw [f_X8_tellOne_182]
    by_cases d : i = 4
    · have mu := t_mustO (F := F) h6 h4 hb M
      refine ⟨τ, ?_, fun c => FmQ.refl τ, fun _ => rfl, fun q => by omega, fun _ _ => rfl, rfl, rfl⟩
      have e11 : (MO pl (exO kd 21 b) τ).1 11 = nI K := by
        unfold MO
        split
        · rw [ss_ne (by omega)]; exact h11
        · rw [ss_ne (by omega), ss_ne (by omega)]; exact h11
      simp (disch := omega) only [↓bnd_i, ↓cal_s, ↓cal_n, ↓cal2_s, ↓cal2_n, cal_s, cal2_s, ↓reduceIte, fa_lit, m1_lit, m2_lit, m1_lt, m2_lt, m1_eq, m2_eq, m1_le, m2_le, le_m1, le_m2, lt_m1, lt_m2, m12, m21, m1_m1, n_lt, n_le, n_eq, lt_t, lt_f, le_t, le_f, eq_t, eq_f, n_cl, inb_ok, n_add, pk_mul, pk_sub, n_rem, n_div, n_dec, n_mx, n_mn, eq_m1, eq_m2, ss_same, ss_ne, ss_r, ss_l, sr_f, sr_l, sr_same, sr_ne, sw_f, sw_l, sw_at, sw_ne, pk_us, pk_un, bI_t, bI_f, not_true_eq_false, not_false_eq_true, eq_self, and_true, true_and, and_false, false_and, or_true, true_or, or_false, false_or, decide_true, decide_false, Bool.false_eq_true, Bool.true_eq_false, ↓cal_w (mu), mu, e11]
    · have tt := t_termsOf s hs F (sr τ 9 (4 * K + i) (nI c))
      have hag := ag_le s hs
      obtain ⟨τ', g1, g2, g3, g4, g5, g6, g7⟩ := ih (i + 1) (sr τ 9 (4 * K + i) (nI c)) h6 h4 (M.fr (fun r hr => sr_ne (by omega))) h13 h11 (by omega) (by omega) (by omega)
      refine ⟨τ', ?_, fun c' => (FmQ.sw9 (by omega)).trans (Nat.le_refl c') (g2 c'), fun k => by rw [g3 k, sr_f], fun _ => ?_, fun j hj => ?_, by rw [g6, sr_ne (by omega)], by rw [g7, sr_ne (by omega)]⟩
      · simp (disch := omega) only [↓bnd_i, ↓cal_s, ↓cal_n, ↓cal2_s, ↓cal2_n, cal_s, cal2_s, ↓reduceIte, fa_lit, m1_lit, m2_lit, m1_lt, m2_lt, m1_eq, m2_eq, m1_le, m2_le, le_m1, le_m2, lt_m1, lt_m2, m12, m21, m1_m1, n_lt, n_le, n_eq, lt_t, lt_f, le_t, le_f, eq_t, eq_f, n_cl, inb_ok, n_add, pk_mul, pk_sub, n_rem, n_div, n_dec, n_mx, n_mn, eq_m1, eq_m2, ss_same, ss_ne, ss_r, ss_l, sr_f, sr_l, sr_same, sr_ne, sw_f, sw_l, sw_at, sw_ne, pk_us, pk_un, bI_t, bI_f, not_true_eq_false, not_false_eq_true, eq_self, and_true, true_and, and_false, false_and, or_true, true_or, or_false, false_or, decide_true, decide_false, Bool.false_eq_true, Bool.true_eq_false, ↓cal_w (tt), tt, h13, f_X8_tellOne_220]
        exact g1
      · rw [g5 _ (by omega), sr_same, pk_us]
      · rw [g5 j (by omega), sr_same, pk_un (by omega)]
/-- what is kept of a tell's expressions -/
def EXs (F : Nat) (kd vl : Nat → Nat) (K c i n : Nat) (p : Nat → Nat) (τ : St) : Prop := ∀ j, i ≤ j → j < n → ∃ cd c1, exM kd vl F (p j) 0 false [] [] = (0, p (j + 1), cd) ∧ τ.2.1 9 (4 * K + j) = nI c1 ∧ τ.2.1 9 (4 * K + j + 1) = nI (c1 + cd.length) ∧ c1 + cd.length ≤ c ∧ cdR (τ.2.1 13) (τ.2.1 14) c1 cd
theorem cdR_cong {f g f' g' : Nat → Int32} {c0 : Nat} : ∀ {c : Cd}, (∀ i, c0 ≤ i → i < c0 + c.length → f' i = f i ∧ g' i = g i) → cdR f g c0 c → cdR f' g' c0 c
  | [], _, _ => trivial
  | x :: r, h, hc => by
    have l : (x :: r).length = r.length + 1 := rfl
    obtain ⟨x1, x2⟩ := h (c0 + r.length) (by omega) (by omega)
    exact ⟨x1.trans hc.1, x2.trans hc.2.1, cdR_cong (fun i h1 h2 => h i h1 (by omega)) hc.2.2⟩
/-- the model's expressions, and what ends the tell -/
theorem t_182 (hF : 1000 < F) (E : TkE kd vl pl e) {K s : Nat} (hK : K < 209) (hs : s < 10) {p : Nat → Nat} (hp : ∀ j, p (j + 1) = (exE F kd vl (p j)).2) : ∀ (n i c : Nat) (τ : St), TkM kd vl pl e τ → τ.1 6 = nI 0 → τ.1 4 = nI (p i) → τ.1 5 = nI 0 → τ.1 13 = nI c → c ≤ p i → τ.1 11 = nI K → i ≤ agN s → 4 - i < n → p i ≤ e → p i ≤ 400 → ∃ τ', f_X8_tellOne_182 F n τ (nI K) (nI s) (nI i) = some τ' ∧ FmQ K c τ τ' ∧ τ'.1 11 = nI (K + 1) ∧ ((biO (exsO F kd vl (agN s - i) (p i)) (exO kd 21)).1 ≠ 0 → τ'.1 6 = nI (biO (exsO F kd vl (agN s - i) (p i)) (exO kd 21)).1 ∧ τ'.1 7 = nI (pl (biO (exsO F kd vl (agN s - i) (p i)) (exO kd 21)).2)) ∧ ((biO (exsO F kd vl (agN s - i) (p i)) (exO kd 21)).1 = 0 → τ'.1 6 = nI 0 ∧ τ'.1 4 = nI (biO (exsO F kd vl (agN s - i) (p i)) (exO kd 21)).2 ∧ τ'.1 5 = nI 0 ∧ (biO (exsO F kd vl (agN s - i) (p i)) (exO kd 21)).2 = p (agN s) + 1 ∧ τ'.2.1 9 (4 * K + i) = nI c ∧ (∀ j, j < 4 * K + i → τ'.2.1 9 j = τ.2.1 9 j) ∧ ∃ c', c ≤ c' ∧ c' ≤ p (agN s) + 1 ∧ τ'.1 13 = nI c' ∧ EXs F kd vl K c' i (agN s) p τ') := by
  have hag := ag_le s hs
  intro n
  induction n with
  | zero => intro i c τ _ _ _ _ _ _ _ _ h; omega
  | succ n ih =>
    intro i c τ M h6 h4 h5 h13 hc h11 hi hn h1 h2
    obtain ⟨m, K0⟩ := MK.of E M h1 h2
    by_cases d : i = agN s
    · rw [show agN s - i = 0 by omega, exsO, biO_0 rfl]
      obtain ⟨v, g1, g2, g3, g4, g5, g6, g7⟩ := t_182E (F := F) (K := K) (s := s) hK hs h2 (n + 1) i τ h6 h4 K0 h13 h11 (by omega) (by omega) hn
      refine ⟨_, g1, ((g2 c).mo (pl := pl)).ss (by omega), ss_same, fun q => ?_, fun q => ?_⟩
      · have q' : (exO kd 21 (p i)).1 ≠ 0 := q
        rw [MO_fl q']
        exact ⟨by rw [ss_ne (by omega), ss_ne (by omega), ss_same], by rw [ss_ne (by omega), ss_same]⟩
      · have q' : (exO kd 21 (p i)).1 = 0 := q
        rw [MO_ok q']
        have ex : (exO kd 21 (p i)).2 = p i + 1 := by
          unfold exO nxO at q' ⊢
          by_cases z : kd (p i) = 21
          · rw [if_pos z] at q' ⊢
            by_cases z2 : p i < 400
            · rw [if_pos z2]
            · rw [if_neg z2] at q'; cases q'
          · rw [if_neg z] at q'; cases q'
        refine ⟨?_, ?_, ?_, by rw [← d]; exact ex, ?_, fun j hj => by rw [ss_r, ss_r]; exact g5 j hj, c, Nat.le_refl _, by rw [← d]; omega, ?_, fun j x1 x2 => by omega⟩
        · rw [ss_ne (by omega), ss_ne (by omega), g3]; exact h6
        · rw [ss_ne (by omega), ss_same]
        · rw [ss_ne (by omega), ss_ne (by omega), g3]; exact h5
        · rw [ss_r, ss_r]; exact g4 (by omega)
        · rw [ss_ne (by omega), ss_ne (by omega), g3]; exact h13
    · obtain ⟨l, hl⟩ : ∃ m, agN s - i = m + 1 := ⟨agN s - i - 1, by omega⟩
      have tt := t_termsOf s hs F (sr τ 9 (4 * K + i) (nI c))
      -- the expression
      have MSt : MS kd vl pl e c (p i) 0 [] [] (ss (sr τ 9 (4 * K + i) (nI c)) 14 (nI 0)) := by
        refine ⟨M.fr (fun r hr => by rw [ss_r, sr_ne (by omega)]), ?_, ?_, ?_, ⟨ss_same, trivial, ?_, trivial⟩, trivial, rfl, ?_⟩
        · rw [ss_ne (by omega), sr_f]; exact h6
        · rw [ss_ne (by omega), sr_f]; exact h4
        · rw [ss_ne (by omega), sr_f]; exact h5
        · rw [ss_ne (by omega), sr_f]; exact h13
        · show c + 0 + 0 ≤ p i
          omega
      obtain ⟨t1, x1, x2⟩ := t_ex (F := F) hF E F (p i) 0 false [] [] _ (F - 1) F MSt h1 h2 (by omega) (by omega) (by omega) (by omega)
      simp only [if_true] at x1
      have hex : f_X8_expression F (sr τ 9 (4 * K + i) (nI c)) = some t1 := by
        have h12 : ∀ G : Nat, 1 ≤ G → f_X8_expression_12 F G (ss (sr τ 9 (4 * K + i) (nI c)) 14 (nI 0)) (nI 0) (nI 1) = f_X8_expression_23 F (f_X8_expression_12 F (G - 1)) F (ss (sr τ 9 (4 * K + i) (nI c)) 14 (nI 0)) (nI 0) := by
          intro G hG
          obtain ⟨G, rfl⟩ : ∃ k, G = k + 1 := ⟨G - 1, by omega⟩
          have z6 : (ss (sr τ 9 (4 * K + i) (nI c)) 14 (nI 0)).1 6 = nI 0 := MSt.2.1
          rw [f_X8_expression_12]
          simp (disch := omega) only [↓bnd_i, ↓cal_s, ↓cal_n, ↓cal2_s, ↓cal2_n, cal_s, cal2_s, ↓reduceIte, fa_lit, m1_lit, m2_lit, m1_lt, m2_lt, m1_eq, m2_eq, m1_le, m2_le, le_m1, le_m2, lt_m1, lt_m2, m12, m21, m1_m1, n_lt, n_le, n_eq, lt_t, lt_f, le_t, le_f, eq_t, eq_f, n_cl, inb_ok, n_add, pk_mul, pk_sub, n_rem, n_div, n_dec, n_mx, n_mn, eq_m1, eq_m2, ss_same, ss_ne, ss_r, ss_l, sr_f, sr_l, sr_same, sr_ne, sw_f, sw_l, sw_at, sw_ne, pk_us, pk_un, bI_t, bI_f, not_true_eq_false, not_false_eq_true, eq_self, and_true, true_and, and_false, false_and, or_true, true_or, or_false, false_or, decide_true, decide_false, Bool.false_eq_true, Bool.true_eq_false, h6, Nat.add_sub_cancel]
        have z5 : (ss (sr τ 9 (4 * K + i) (nI c)) 14 (nI 0)).1 5 = nI 0 := MSt.2.2.2.1
        show bnd (ss (sr τ 9 (4 * K + i) (nI c)) 14 (nI 0)) (fun t1 => bnd (t1.1 5) (fun v2 => f_X8_expression_12 F F t1 v2 (nI 1))) = some t1
        rw [bnd_i, bnd_i, z5, h12 F (by omega)]
        exact x1
      have fr1 : FmQ K c τ t1 := by
        have a1 : FmQ K c τ (ss (sr τ 9 (4 * K + i) (nI c)) 14 (nI 0)) := (FmQ.sw9 (by omega)).ss (by omega)
        exact a1.trans (Nat.le_refl c) x2.1.toQ
      have e9 : t1.2.1 9 = upd (τ.2.1 9) (4 * K + i) (nI c) := by rw [x2.1.2.1 9 (by omega), ss_r, sr_same]
      have t11 : t1.1 11 = nI K := by rw [x2.1.1 11 (by omega) (by omega) (by omega) (by omega) (by omega) (by omega), ss_ne (by omega), sr_f]; exact h11
      obtain ⟨gg, gk⟩ := exE_P (F := F) hF E h1 h2
      rw [hl, exsO]
      have into : ∀ τ', f_X8_tellOne_182 F n t1 (nI K) (nI s) (nI (i + 1)) = some τ' → f_X8_tellOne_182 F (n + 1) τ (nI K) (nI s) (nI i) = some τ' := by
        intro τ' h
        rw [f_X8_tellOne_182]
        simp (disch := omega) only [↓bnd_i, ↓cal_s, ↓cal_n, ↓cal2_s, ↓cal2_n, cal_s, cal2_s, ↓reduceIte, fa_lit, m1_lit, m2_lit, m1_lt, m2_lt, m1_eq, m2_eq, m1_le, m2_le, le_m1, le_m2, lt_m1, lt_m2, m12, m21, m1_m1, n_lt, n_le, n_eq, lt_t, lt_f, le_t, le_f, eq_t, eq_f, n_cl, inb_ok, n_add, pk_mul, pk_sub, n_rem, n_div, n_dec, n_mx, n_mn, eq_m1, eq_m2, ss_same, ss_ne, ss_r, ss_l, sr_f, sr_l, sr_same, sr_ne, sw_f, sw_l, sw_at, sw_ne, pk_us, pk_un, bI_t, bI_f, not_true_eq_false, not_false_eq_true, eq_self, and_true, true_and, and_false, false_and, or_true, true_or, or_false, false_or, decide_true, decide_false, Bool.false_eq_true, Bool.true_eq_false, ↓cal_w (tt), tt, ↓cal_w (hex), hex, h13, h6, f_X8_tellOne_220]
        exact h
      by_cases q : (exE F kd vl (p i)).1 = 0
      · rw [biO_0 q]
        obtain ⟨y6, y4, y5, y13, ycd, yb⟩ := x2.2.1 q
        generalize hcd : (exM kd vl F (p i) 0 false [] []).2.2 = cd at *
        have hpe : (exM kd vl F (p i) 0 false [] []).2.1 = p (i + 1) := (hp i).symm
        have hex2 : exM kd vl F (p i) 0 false [] [] = (0, p (i + 1), cd) := Prod.ext q (Prod.ext hpe hcd)
        have hl2 : agN s - (i + 1) = l := by omega
        rw [hpe] at y4 yb
        have hg2 : p (i + 1) ≤ e ∧ p (i + 1) ≤ 400 := by rw [hp i]; exact ⟨gg.2.1, gg.2.2⟩
        have M1 : TkM kd vl pl e t1 := M.fr (fun r hr => fr1.2.1 r (by omega))
        obtain ⟨τ', g1, g2, g3, g4, g5⟩ := ih (i + 1) (c + cd.length) t1 M1 y6 y4 y5 y13 yb t11 (by omega) (by omega) hg2.1 hg2.2
        rw [hl2] at g4 g5
        rw [← hp i]
        refine ⟨τ', into τ' g1, fr1.trans (by omega) g2, g3, g4, fun z => ?_⟩
        obtain ⟨z1, z2, z3, z4, z5, z6, c', z7, z8, z9, z10⟩ := g5 z
        refine ⟨z1, z2, z3, z4, ?_, fun j hj => ?_, c', by omega, z8, z9, fun j x1 x2 => ?_⟩
        · rw [z6 _ (by omega), e9, pk_us]
        · rw [z6 j (by omega), e9, pk_un (by omega)]
        · by_cases w : j = i
          · subst w
            refine ⟨cd, c, hex2, ?_, ?_, by omega, ?_⟩
            · rw [z6 _ (by omega), e9, pk_us]
            · exact z5
            · exact cdR_cong (fun k h1 h2 => g2.2.2.1 k h2) ycd
          · exact z10 j (by omega) x2
      · rw [biO_n q]
        obtain ⟨y6, y7⟩ := x2.2.2 q
        have hx : 1 ≤ (exE F kd vl (p i)).1 ∧ (exE F kd vl (p i)).1 ≤ 5 := by
          have := gg.1
          omega
        obtain ⟨τ', g1, g2, g3, g4, g5⟩ := t_182F (F := F) (K := K) (s := s) hK hs n (i + 1) t1 y6 hx t11 (by omega) (by omega)
        rw [biO_n q]
        refine ⟨τ', into τ' g1, fr1.trans (Nat.le_refl c) (g2 c), g5, fun _ => ⟨g3, by rw [g4]; exact y7⟩, fun z => absurd z q⟩
end
