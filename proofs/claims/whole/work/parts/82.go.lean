/-! PURE: the walk to the next tell -/
section
variable {F : Nat} {kd vl pl : Nat → Nat} {e : Nat} {ps dp : Nat → Nat} {T c : Nat}
noncomputable def rkn (F : Nat) (σ : St) : Option (Int32 × St) := cal2 (f_X4_reckon F σ) (fun r6 t7 => if r6 = 0 ∨ r6 = 1 then some (r6, t7) else none)
theorem n_step (Ev : EnvP F kd vl pl e ps dp T) {σ : St} (D : TkD kd vl pl e σ) {a n x2 : Nat} (ha : a ≤ e) (h26 : σ.1 26 = nI a) (hx : x2 < 1000000) (t : Int32) : f_X4_next_2 F (n + 1) σ t (nI x2) = if kd a = 12 then cal (f_X4_enter F (ss σ 28 (nI (kd a))) t) (fun t10 => f_X4_next_2 F n t10 t (nI (x2 + 1))) else if kd a = 13 then cal (f_X4_turn F (ss σ 28 (nI (kd a))) t) (fun t10 => f_X4_next_2 F n t10 t (nI (x2 + 1))) else rkn F (ss σ 28 (nI (kd a))) := by
  have wk := d_kindAt (F := F) Ev.1 D ha
  have kle : kd a ≤ 30 := by
    by_cases q : a = e
    · rw [q]; rcases Ev.1.2.2.1 with z | z <;> omega
    · have := Ev.1.2.1 a (by omega); omega
  rw [f_X4_next_2]
  unfold f_X4_next_62
  by_cases k12 : kd a = 12
  · rw [if_pos k12]
    rw [k12] at wk
    rw [k12]
    simp (disch := omega) only [↓bnd_i, ↓cal_s, ↓cal_n, ↓cal2_s, ↓cal2_n, cal_s, cal2_s, ↓reduceIte, fa_lit, m1_lit, m2_lit, m1_lt, m2_lt, m1_eq, m2_eq, m1_le, m2_le, le_m1, le_m2, lt_m1, lt_m2, m12, m21, m1_m1, n_lt, n_le, n_eq, lt_t, lt_f, le_t, le_f, eq_t, eq_f, n_cl, inb_ok, n_add, pk_mul, pk_sub, n_rem, n_div, n_dec, n_mx, n_mn, eq_m1, eq_m2, ss_same, ss_ne, ss_r, ss_l, sr_f, sr_l, sr_same, sr_ne, sw_f, sw_l, sw_at, sw_ne, pk_us, pk_un, bI_t, bI_f, not_true_eq_false, not_false_eq_true, eq_self, and_true, true_and, and_false, false_and, or_true, true_or, or_false, false_or, decide_true, decide_false, Bool.false_eq_true, Bool.true_eq_false, ↓cal_w (wk), wk, h26]
  · rw [if_neg k12]
    by_cases k13 : kd a = 13
    · rw [if_pos k13]
      rw [k13] at wk
      rw [k13]
      simp (disch := omega) only [↓bnd_i, ↓cal_s, ↓cal_n, ↓cal2_s, ↓cal2_n, cal_s, cal2_s, ↓reduceIte, fa_lit, m1_lit, m2_lit, m1_lt, m2_lt, m1_eq, m2_eq, m1_le, m2_le, le_m1, le_m2, lt_m1, lt_m2, m12, m21, m1_m1, n_lt, n_le, n_eq, lt_t, lt_f, le_t, le_f, eq_t, eq_f, n_cl, inb_ok, n_add, pk_mul, pk_sub, n_rem, n_div, n_dec, n_mx, n_mn, eq_m1, eq_m2, ss_same, ss_ne, ss_r, ss_l, sr_f, sr_l, sr_same, sr_ne, sw_f, sw_l, sw_at, sw_ne, pk_us, pk_un, bI_t, bI_f, not_true_eq_false, not_false_eq_true, eq_self, and_true, true_and, and_false, false_and, or_true, true_or, or_false, false_or, decide_true, decide_false, Bool.false_eq_true, Bool.true_eq_false, ↓cal_w (wk), wk, h26]
    · rw [if_neg k13]
      unfold rkn
      simp (disch := omega) only [↓bnd_i, ↓cal_s, ↓cal_n, ↓cal2_s, ↓cal2_n, cal_s, cal2_s, ↓reduceIte, fa_lit, m1_lit, m2_lit, m1_lt, m2_lt, m1_eq, m2_eq, m1_le, m2_le, le_m1, le_m2, lt_m1, lt_m2, m12, m21, m1_m1, n_lt, n_le, n_eq, lt_t, lt_f, le_t, le_f, eq_t, eq_f, n_cl, inb_ok, n_add, pk_mul, pk_sub, n_rem, n_div, n_dec, n_mx, n_mn, eq_m1, eq_m2, ss_same, ss_ne, ss_r, ss_l, sr_f, sr_l, sr_same, sr_ne, sw_f, sw_l, sw_at, sw_ne, pk_us, pk_un, bI_t, bI_f, not_true_eq_false, not_false_eq_true, eq_self, and_true, true_and, and_false, false_and, or_true, true_or, or_false, false_or, decide_true, decide_false, Bool.false_eq_true, Bool.true_eq_false, ↓cal_w (wk), wk, h26]
theorem walk (Ev : EnvP F kd vl pl e ps dp T) {t : Nat} (ht : t < 300) : ∀ (m k : Nat) (ob : List Nat) (σ τ : St) (nd x2 : Nat), RS F kd vl pl e ps dp T c t k ob σ τ → cnt (σ.2.1 31) t ob.length * 201 + (200 - k) < m → m ≤ nd → x2 + m ≤ 1000000 → τ.2.1 19 6 = nI t → ∃ k' ob' σ' f s, s ≤ m * 200000000 ∧ RS F kd vl pl e ps dp T c t k' ob' σ' (sw τ 18 f) ∧ FrW σ σ' ∧ (k' = T ∨ (k' < T ∧ kd (ps k') ≤ 11)) ∧ (∀ n x, f_X8_runs_6 F (n + s) τ (nI k) (nI ob.length) x = f_X8_runs_6 F n (sw τ 18 f) (nI k') (nI ob'.length) x) ∧ f_X4_next_2 F nd σ (nI t) (nI x2) = rkn F (ss σ' 28 (nI (kd (ps k')))) := by
  intro m
  induction m with
  | zero => intro k ob σ τ nd x2 R h; omega
  | succ m ih =>
    intro k ob σ τ nd x2 R hm hnd hx2 ht6
    have R' := R
    obtain ⟨P, D, h26, h27, hob, hkT, L⟩ := R
    obtain ⟨n1, rfl⟩ : ∃ n1, nd = n1 + 1 := ⟨nd - 1, by omega⟩
    have hT := Ev.2.2.2.1
    have hT4 := Ev.2.2.2.2.1
    have hT2 := P.2.1
    have l2 := ps_le P (k := k) (T - k) (by omega)
    rw [show k + (T - k) = T by omega] at l2
    have st := n_step (n := n1) Ev D (a := ps k) (x2 := x2) (by omega) h26 (by omega) (nI t)
    have stay : (k = T ∨ (k < T ∧ kd (ps k) ≤ 11)) → f_X4_next_2 F (n1 + 1) σ (nI t) (nI x2) = rkn F (ss σ 28 (nI (kd (ps k)))) → ∃ k' ob' σ' f s, s ≤ (m + 1) * 200000000 ∧ RS F kd vl pl e ps dp T c t k' ob' σ' (sw τ 18 f) ∧ FrW σ σ' ∧ (k' = T ∨ (k' < T ∧ kd (ps k') ≤ 11)) ∧ (∀ n x, f_X8_runs_6 F (n + s) τ (nI k) (nI ob.length) x = f_X8_runs_6 F n (sw τ 18 f) (nI k') (nI ob'.length) x) ∧ f_X4_next_2 F (n1 + 1) σ (nI t) (nI x2) = rkn F (ss σ' 28 (nI (kd (ps k')))) := by
      intro h1 h2
      refine ⟨k, ob, σ, τ.2.1 18, 0, Nat.zero_le _, ?_, FrW.refl σ, h1, fun n x => by rw [sw_self]; rfl, h2⟩
      rw [sw_self]; exact R'
    by_cases hke : k = T
    · refine stay (Or.inl hke) ?_
      have k29 := Ev.2.2.2.2.2.1
      rw [st, if_neg (by rw [hke]; omega), if_neg (by rw [hke]; omega)]
    have hk : k < T := by omega
    have PTk := P.2.2.1 k hk
    have hdk := Ev.2.2.1 k
    -- going on from σ2, τ2 at k2
    have on : ∀ k2 ob2 σ2 f2 s2, s2 ≤ 200000000 → RS F kd vl pl e ps dp T c t k2 ob2 σ2 (sw τ 18 f2) → FrW σ σ2 → cnt (σ2.2.1 31) t ob2.length * 201 + (200 - k2) < m → (∀ n x, f_X8_runs_6 F (n + s2) τ (nI k) (nI ob.length) x = f_X8_runs_6 F n (sw τ 18 f2) (nI k2) (nI ob2.length) x) → f_X4_next_2 F (n1 + 1) σ (nI t) (nI x2) = f_X4_next_2 F n1 σ2 (nI t) (nI (x2 + 1)) → ∃ k' ob' σ' f s, s ≤ (m + 1) * 200000000 ∧ RS F kd vl pl e ps dp T c t k' ob' σ' (sw τ 18 f) ∧ FrW σ σ' ∧ (k' = T ∨ (k' < T ∧ kd (ps k') ≤ 11)) ∧ (∀ n x, f_X8_runs_6 F (n + s) τ (nI k) (nI ob.length) x = f_X8_runs_6 F n (sw τ 18 f) (nI k') (nI ob'.length) x) ∧ f_X4_next_2 F (n1 + 1) σ (nI t) (nI x2) = rkn F (ss σ' 28 (nI (kd (ps k')))) := by
      intro k2 ob2 σ2 f2 s2 hs R2 w2 c2 m2 d2
      obtain ⟨k', ob', σ', f, s, y1, y2, y3, y4, y5, y6⟩ := ih k2 ob2 σ2 (sw τ 18 f2) n1 (x2 + 1) R2 c2 (by omega) (by omega) (by rw [sw_ne (by omega)]; exact ht6)
      rw [sw_sw] at y2
      refine ⟨k', ob', σ', f, s + s2, by omega, y2, w2.trans y3, y4, fun n x => ?_, by rw [d2, y6]⟩
      rw [← Nat.add_assoc, m2, y5, sw_sw]
    generalize hσ1 : ss σ 28 (nI (kd (ps k))) = σ1 at st
    have w1 : FrW σ σ1 := by rw [← hσ1]; exact (FrW.refl σ).ss (by omega)
    have D1 := D.frW w1
    have g26 : σ1.1 26 = nI (ps k) := by rw [← hσ1, ss_ne (by omega)]; exact h26
    have g27 : σ1.1 27 = nI ob.length := by rw [← hσ1, ss_ne (by omega)]; exact h27
    have er : σ1.2 = σ.2 := by rw [← hσ1]; rfl
    by_cases k12 : kd (ps k) = 12
    · rw [if_pos k12] at st
      rw [if_pos k12] at hdk
      obtain ⟨x, hxT, M⟩ := P.2.2.2.1 k hk k12
      obtain ⟨q1, -, -, q4, q5, -, -⟩ := PTk
      obtain ⟨z1, z2, z3, z4⟩ := q5 k12
      rw [k12] at q1
      have v99 := P.2.2.2.2.2 k hk k12
      have hmx : ∀ τ', PM F kd vl ps dp T c τ' → τ'.2.1 11 k = nI x := fun τ' P' => by
        obtain ⟨x', -, M'⟩ := P'.2.2.2.1 k hk k12
        rw [mate_x Ev M M']
        exact M'.2.2.2.1
      obtain ⟨u1, u2, u3, u4, u5, u6, u7⟩ := id M
      have hdx := Ev.2.2.1 x
      rw [if_neg (by omega), if_pos u3] at hdx
      by_cases v0 : vl (ps k + 1) = 0
      · have en := d_enter0 Ev D1 P M hxT g26 v0 (nI t)
        rw [cal_w en] at st
        rw [v0] at z4
        refine on (x + 1) ob (ss σ1 26 (nI (ps (x + 1)))) (τ.2.1 18) 1 (by omega) ?_ (w1.ss (by omega)) ?_ (fun n y => ?_) st
        · rw [sw_self]
          refine ⟨P, D1.frW ((FrW.refl σ1).ss (by omega)), ss_same, by rw [ss_ne (by omega)]; exact g27, by omega, by omega, ?_⟩
          refine Lv_cong (σ := σ) (τ := τ) (fun l _ => by rw [ss_r, er]; exact ⟨rfl, rfl, rfl, rfl⟩) (Lv_fw L (by omega) (Nat.le_refl _) (Nat.le_refl _) (fun j h1 h2 => ?_) (fun _ => QB.do0 ⟨τ, P⟩ hmx u1 hk k12 v0))
          by_cases zz : j = x + 1
          · rw [zz]; omega
          · have := u7 j h1 (by omega); omega
        · rw [ss_r, er]; omega
        · rw [sw_self]
          exact r_do0 P.1 P.2.1 hk ht6 ht q1 z4 u4
      · obtain ⟨v, hv⟩ : ∃ v, vl (ps k + 1) = v + 1 := ⟨vl (ps k + 1) - 1, by omega⟩
        have en := d_enter1 Ev D1 P hk g26 g27 (by omega) z2 hv (nI t)
        rw [cal_w en] at st
        rw [hv] at z4
        generalize hσ2 : ss (sr (sr (sr (ss σ1 26 (nI (ps (k + 1)))) 29 ob.length (nI (ps (k + 1)))) 30 ob.length (nI 0)) 31 ob.length (nI t)) 27 (nI (ob.length + 1)) = σ2 at st
        have w2 : FrW σ1 σ2 := by rw [← hσ2]; exact (((((FrW.refl σ1).ss (by omega)).sr (by omega)).sr (by omega)).sr (by omega)).ss (by omega)
        have r29 : σ2.2.1 29 = upd (σ.2.1 29) ob.length (nI (ps (k + 1))) := by rw [← hσ2, ss_r, sr_ne (by omega), sr_ne (by omega), sr_same, ss_r, er]
        have r30 : σ2.2.1 30 = upd (σ.2.1 30) ob.length (nI 0) := by rw [← hσ2, ss_r, sr_ne (by omega), sr_same, sr_ne (by omega), ss_r, er]
        have r31 : σ2.2.1 31 = upd (σ.2.1 31) ob.length (nI t) := by rw [← hσ2, ss_r, sr_same, sr_ne (by omega), sr_ne (by omega), ss_r, er]
        refine on (k + 1) (k :: ob) σ2 (upd (τ.2.1 18) ob.length (nI 0)) 1 (by omega) ?_ (w1.trans w2) ?_ (fun n y => ?_) st
        · refine ⟨P.sw (by omega), D1.frW w2, ?_, ?_, ?_, by omega, ⟨by omega, k12, hob.symm, fun j h1 h2 => ?_⟩, ?_, 0, t, ?_, ?_, by omega, ?_, Nat.le_refl _, fun _ => QB.refl _ _, ?_⟩
          · rw [← hσ2, ss_ne (by omega)]; show (ss σ1 26 _).1 26 = _; exact ss_same
          · rw [← hσ2]; exact ss_same
          · show ob.length + 1 = dp (k + 1); omega
          · have : j = k + 1 := by omega
            rw [this]; omega
          · rw [r29]; exact pk_us
          · rw [r30]; exact pk_us
          · rw [sw_at]; exact pk_us
          · rw [r31]; exact pk_us
          · refine Lv_cong (σ := σ) (τ := τ) (fun l hl => ?_) L
            rw [r29, r30, r31, sw_at]
            exact ⟨pk_un (by omega), pk_un (by omega), pk_un (by omega), pk_un (by omega)⟩
        · show (cnt (σ2.2.1 31) t ob.length + (if σ2.2.1 31 ob.length = nI t then 0 else 1)) * 201 + (200 - (k + 1)) < m
          rw [r31, if_pos pk_us, cnt_cong (g := σ.2.1 31) (fun l hl => pk_un (by omega))]
          omega
        · have := r_do1 (F := F) (n := n) (x := y) (D := ob.length) P.1 P.2.1 hk ht6 ht q1 z4 (by omega) (by omega)
          rw [this]; rfl
    · rw [if_neg k12] at st hdk
      by_cases k13 : kd (ps k) = 13
      · rw [if_pos k13] at st hdk
        obtain ⟨q1, -, -, q4, -, q6, -⟩ := PTk
        obtain ⟨z1, z2⟩ := q6 k13
        rw [k13] at q1
        obtain ⟨d', M'⟩ := P.2.2.2.2.1 k hk k13
        cases ob with
        | nil => have : 0 = dp k := hob; omega
        | cons d r =>
          have hob' : r.length + 1 = dp k := hob
          obtain ⟨⟨a1, a2, a3, a4⟩, a5, rr, ta, a6, a7, a8, a9, a10, a11, a12⟩ := L
          have hdd : d = d' := by
            obtain ⟨b1, -, -, -, -, b6, b7⟩ := M'
            rcases Nat.lt_trichotomy d d' with z | z | z
            · have := a4 d' z (by omega); omega
            · exact z
            · have := b7 d z (by omega); omega
          subst hdd
          have hmx : ∀ τ', PM F kd vl ps dp T c τ' → τ'.2.1 11 k = nI d := fun τ' P' => by
            obtain ⟨x', M2⟩ := P'.2.2.2.2.1 k hk k13
            rw [mate_d M' M2]
            exact M2.2.2.2.2.1
          obtain ⟨u1, u2, u3, u4, u5, u6, u7⟩ := id M'
          obtain ⟨-, -, -, y4, y5, -, -⟩ := P.2.2.1 d (by omega)
          obtain ⟨y5a, y5b, y5c, y5d⟩ := y5 u2
          have v99 := P.2.2.2.2.2 d (by omega) u2
          have l3 := ps_le P (k := d + 1) (T - (d + 1)) (by omega)
          rw [show d + 1 + (T - (d + 1)) = T by omega] at l3
          have g27' : σ1.1 27 = nI (r.length + 1) := g27
          have g29 : σ1.2.1 29 r.length = nI (ps (d + 1)) := by rw [er]; exact a5
          have g30 : σ1.2.1 30 r.length = nI rr := by rw [er]; exact a6
          have g31 : σ1.2.1 31 r.length = nI ta := by rw [er]; exact a9
          have hcn : cnt (σ.2.1 31) t (d :: r).length = cnt (σ.2.1 31) t r.length + (if σ.2.1 31 r.length = nI t then 0 else 1) := rfl
          rw [hcn, a9] at hm
          by_cases hb : ta ≠ t ∧ rr + 1 < vl (ps d + 1)
          · obtain ⟨hb1, hb2⟩ := hb
            have en := d_turnB Ev D1 (by omega) g27' y5b (by omega) (show t < 1000 by omega) (by omega) g29 g30 g31 (by omega) hb1 hb2
            rw [cal_w en] at st
            rw [if_neg (by rw [n_eq (by omega) (by omega)]; exact hb1)] at hm
            generalize hσ2 : ss (sr (sr σ1 30 r.length (nI (rr + 1))) 31 r.length (nI t)) 26 (nI (ps (d + 1))) = σ2 at st
            have w2 : FrW σ1 σ2 := by rw [← hσ2]; exact (((FrW.refl σ1).sr (by omega)).sr (by omega)).ss (by omega)
            have r29 : σ2.2.1 29 = σ.2.1 29 := by rw [← hσ2, ss_r, sr_ne (by omega), sr_ne (by omega), er]
            have r30 : σ2.2.1 30 = upd (σ.2.1 30) r.length (nI (rr + 1)) := by rw [← hσ2, ss_r, sr_ne (by omega), sr_same, er]
            have r31 : σ2.2.1 31 = upd (σ.2.1 31) r.length (nI t) := by rw [← hσ2, ss_r, sr_same, sr_ne (by omega), er]
            have hdd := Ev.2.2.1 d
            rw [if_pos u2] at hdd
            refine on (d + 1) (d :: r) σ2 (upd (τ.2.1 18) r.length (nI (rr + 1))) 1 (by omega) ?_ (w1.trans w2) ?_ (fun n y => ?_) st
            · refine ⟨P.sw (by omega), D1.frW w2, ?_, ?_, ?_, by omega, ⟨by omega, u2, a3, fun j h1 h2 => a4 j h1 (by omega)⟩, ?_, rr + 1, t, ?_, ?_, hb2, ?_, Nat.le_refl _, fun _ => QB.refl _ _, ?_⟩
              · rw [← hσ2]; exact ss_same
              · rw [← hσ2, ss_ne (by omega)]; exact g27'
              · show r.length + 1 = dp (d + 1); omega
              · rw [r29]; exact a5
              · rw [r30]; exact pk_us
              · rw [sw_at]; exact pk_us
              · rw [r31]; exact pk_us
              · refine Lv_cong (σ := σ) (τ := τ) (fun l hl => ?_) (Lv_fw a12 (Nat.le_refl _) a10 a10 (fun j h1 h2 => by omega) (fun _ => QB.refl _ _))
                rw [r29, r30, r31, sw_at]
                exact ⟨rfl, pk_un (by omega), pk_un (by omega), pk_un (by omega)⟩
            · show (cnt (σ2.2.1 31) t r.length + (if σ2.2.1 31 r.length = nI t then 0 else 1)) * 201 + (200 - (d + 1)) < m
              rw [r31, if_pos pk_us, cnt_cong (g := σ.2.1 31) (fun l hl => pk_un (by omega))]
              omega
            · have := r_end (F := F) (n := n) (x := y) (D := r.length) P.1 P.2.1 hk ht6 ht q1 u5 (by omega) y5d (by omega) (by omega) a7 (by omega)
              rw [if_neg (by omega)] at this
              exact this
          · have hc : ta = t ∨ vl (ps d + 1) ≤ rr + 1 := by omega
            have en := d_turnL Ev D1 (by omega) g26 (by omega) g27' z2 y5b (by omega) (show t < 1000 by omega) (by omega) g29 g30 g31 (by omega) hc
            rw [cal_w en] at st
            generalize hσ2 : ss (ss (sr σ1 30 r.length (nI (rr + 1))) 27 (nI r.length)) 26 (nI (ps (k + 1))) = σ2 at st
            have w2 : FrW σ1 σ2 := by rw [← hσ2]; exact (((FrW.refl σ1).sr (by omega)).ss (by omega)).ss (by omega)
            have r29 : σ2.2.1 29 = σ.2.1 29 := by rw [← hσ2, ss_r, ss_r, sr_ne (by omega), er]
            have r30 : σ2.2.1 30 = upd (σ.2.1 30) r.length (nI (rr + 1)) := by rw [← hσ2, ss_r, ss_r, sr_same, er]
            have r31 : σ2.2.1 31 = σ.2.1 31 := by rw [← hσ2, ss_r, ss_r, sr_ne (by omega), er]
            -- what the model does
            have hmod : ∃ f s, s ≤ 200000000 ∧ (∀ l, l < r.length → f l = τ.2.1 18 l) ∧ (∀ n y, f_X8_runs_6 F (n + s) τ (nI k) (nI (r.length + 1)) y = f_X8_runs_6 F n (sw τ 18 f) (nI (k + 1)) (nI r.length) y) ∧ (ta = t → QB F kd vl ps dp T c d (k + 1) r.length) := by
              by_cases q : ta = t
              · have qb := a11 q
                have ql := QB.loop u1 hk u2 u3 hmx (D := r.length) (by omega) (by omega) v99 qb
                obtain ⟨sb, hsb, hq⟩ := qb
                obtain ⟨g, hg⟩ : ∃ g, rr + g + 1 = vl (ps d + 1) := ⟨vl (ps d + 1) - rr - 1, by omega⟩
                have hsb2 : sb ≤ 2000000 := by
                  have c1 : cQ (r.length + 1) ≤ 10000 := by
                    have h3 : r.length = 0 ∨ r.length = 1 ∨ r.length = 2 := by omega
                    rcases h3 with z | z | z <;> rw [z] <;> decide
                  have c2 : k * cQ (r.length + 1) ≤ 200 * 10000 := Nat.mul_le_mul (by have := P.2.1; omega) c1
                  omega
                have hgs : g * (sb + 1) ≤ 98 * 2000001 := Nat.mul_le_mul (by omega) (by omega)
                have qe := q_end u1 hk u2 u3 hmx (D := r.length) (by omega) hq g rr hg
                obtain ⟨f, hf⟩ := qe τ t P ht6 ht a7
                exact ⟨f, 1 + g * (sb + 1), by omega, hf.1, hf.2, fun _ => ql⟩
              · refine ⟨upd (τ.2.1 18) r.length (nI (rr + 1)), 1, by omega, fun l hl => pk_un (by omega), fun n y => ?_, fun z => absurd z q⟩
                have := r_end (F := F) (n := n) (x := y) (D := r.length) P.1 P.2.1 hk ht6 ht q1 u5 (by omega) y5d (by omega) (by omega) a7 (by omega)
                rw [if_pos (by omega)] at this
                exact this
            obtain ⟨f, s, b1, b2, b3, b4⟩ := hmod
            refine on (k + 1) r σ2 f s b1 ?_ (w1.trans w2) ?_ b3 st
            · refine ⟨P.sw (by omega), D1.frW w2, ?_, ?_, by omega, by omega, ?_⟩
              · rw [← hσ2]; exact ss_same
              · rw [← hσ2, ss_ne (by omega)]; exact ss_same
              · refine Lv_cong (σ := σ) (τ := τ) (fun l hl => ?_) (Lv_fw a12 (by omega) a10 a10 (fun j h1 h2 => ?_) b4)
                · rw [r29, r30, r31, sw_at]
                  exact ⟨rfl, pk_un (by omega), rfl, b2 l hl⟩
                · by_cases zz : j = k + 1
                  · rw [zz]; omega
                  · have := u7 j h1 (by omega); omega
            · rw [r31]
              by_cases q : nI ta = nI t
              · rw [if_pos q] at hm; omega
              · rw [if_neg q] at hm; omega
      · rw [if_neg k13] at st
        exact stay (Or.inr ⟨hk, by have := PTk.2.1; omega⟩) (by rw [hσ1]; exact st)
end
