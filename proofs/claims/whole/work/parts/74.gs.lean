/-! PURE: the model's tells, each in its turn -/
section
variable {F : Nat} {kd vl pl : Nat → Nat} {e : Nat} {ps dp : Nat → Nat}
theorem tO_12 {a : Nat} (h : kd a = 12) : tO F kd vl a = biO (nxO a) (fun b => biO (exO kd 20 b) (exO kd 21)) := by unfold tO; rw [if_pos h]
theorem tO_13 {a : Nat} (h : kd a = 13) : tO F kd vl a = biO (nxO a) (exO kd 21) := by unfold tO; rw [if_neg (by omega), if_pos h]
theorem tO_t {a : Nat} (h : 2 ≤ kd a ∧ kd a ≤ 11) : tO F kd vl a = biO (nxO a) (fun b => biO (exsO F kd vl (agN (kd a - 2)) b) (exO kd 21)) := by unfold tO; rw [if_neg (by omega), if_neg (by omega), if_pos h]
/-- the model's tell either faults, or all goes on -/
def TellR (F : Nat) (kd vl pl : Nat → Nat) (e : Nat) (ps dp : Nat → Nat) (K : Nat) (ob' : List Nat) (τ : St) : Prop := ∃ τ', f_X8_tellOne F τ = some τ' ∧ FmP τ τ' ∧ ((tO F kd vl (ps K)).1 ≠ 0 → τ'.1 6 = nI (tO F kd vl (ps K)).1 ∧ τ'.1 7 = nI (pl (tO F kd vl (ps K)).2)) ∧ ((tO F kd vl (ps K)).1 = 0 → ∃ c', GS F kd vl pl e ps dp (K + 1) c' ob' τ')
theorem t_doM (hF : 1000 < F) (E : TkE kd vl pl e) (hps : ∀ k, ps (k + 1) = (tO F kd vl (ps k)).2) (hdp : ∀ k, dp (k + 1) = if kd (ps k) = 12 then dp k + 1 else if kd (ps k) = 13 then dp k - 1 else dp k) {K c : Nat} {ob : List Nat} {τ : St} (G : GS F kd vl pl e ps dp K c ob τ) (hk : kd (ps K) = 12) (hd : dp K < 3) : TellR F kd vl pl e ps dp K (K :: ob) τ := by
  have E' := E
  obtain ⟨e1, e2, e3, e4, e5, e6⟩ := E'
  obtain ⟨⟨M, g6, g4, g5, g11, g12, g13, gc⟩, ⟨a1, a2, a3⟩, W, ⟨o1, o2, o3, o4⟩, P, Q1, Q2⟩ := G
  generalize ha : ps K = a at *
  obtain ⟨m, K0⟩ := MK.of E M a1 a2
  have ae : ∀ {x : Nat}, x ≤ e → kd x ≤ 28 → x < e := fun {x} h1 h2 => by
    by_cases z : x = e
    · rw [z] at h2; rcases e3 with y | y <;> omega
    · omega
  have hae := ae a1 (by omega)
  have r70 := t_tell70 (F := F) g6 g4 a2 g11 g12 o3 K0 (by omega) (fun _ => hd) (fun q => by omega)
  rw [hk] at r70
  have go := t_goO (F := F) g6 g4 a2 K0
  unfold TellR
  rw [ha, r70, tO_12 hk]
  unfold f_X8_tellOne_70
  by_cases n0 : (nxO a).1 = 0
  · obtain ⟨a4, n2⟩ := nxO_1 n0
    rw [MO_ok n0, n2] at go
    rw [biO_0 n0, n2]
    generalize h2 : sr (ss τ 4 (nI (a + 1))) 8 K (nI 10) = τ2
    have f2 : FmP τ τ2 := by rw [← h2]; exact ((FmP.refl τ).ss (by omega)).sr (by omega)
    have q6 : τ2.1 6 = nI 0 := by rw [← h2, sr_f, ss_ne (by omega)]; exact g6
    have q4 : τ2.1 4 = nI (a + 1) := by rw [← h2, sr_f, ss_same]
    obtain ⟨m1, K1⟩ := MK.of E (M.fr (τ' := τ2) (fun r _ => f2.2.1 r (by omega))) (show a + 1 ≤ e by omega) (by omega)
    have W2 : WR kd vl pl a τ2 := W.step (Nat.le_refl _) (fun n h1 h2 => by omega) (by rw [← h2, sr_f, ss_ne (by omega)]) (by rw [← h2, sr_f, ss_ne (by omega)])
    obtain ⟨v, w, x, b1, b2, b3⟩ := t_bounded (F := F) (least := 0) (most := 99) E (by omega) q6 q4 (by omega) K1 W2 (by omega) (by omega) (by
      unfold wrg
      exact decide_eq_decide.mpr (by omega))
    generalize h3 : ss (ss τ2 8 w) 9 x = τ3 at *
    have f3 : FmP τ τ3 := by rw [← h3]; exact (f2.ss (by omega)).ss (by omega)
    generalize h4 : ss (sr (sr (MO pl (exO kd 20 (a + 1)) τ3) 10 K v) 12 (dp K) (nI K)) 12 (nI (dp K + 1)) = τ4
    have f4 : FmP τ τ4 := by rw [← h4]; exact (((f3.mo (pl := pl)).sr (by omega)).sr (by omega)).ss (by omega)
    have e12 : (MO pl (exO kd 20 (a + 1)) τ3).1 12 = nI (dp K) := by
      rw [MO_k (by omega), ← h3, ss_ne (by omega), ss_ne (by omega), ← h2, sr_f, ss_ne (by omega)]; exact g12
    have e11 : τ4.1 11 = nI K := by
      rw [← h4, ss_ne (by omega), sr_f, sr_f, MO_k (by omega), ← h3, ss_ne (by omega), ss_ne (by omega), ← h2, sr_f, ss_ne (by omega)]; exact g11
    have into : ∀ τ5, f_X8_must F τ4 (nI 4) = some τ5 → τ5.1 11 = nI K → (if (τ.1 6) ≤ 0 then (cal (f_X8_goesOn F τ) (fun t2 => if inb (nI K) 210 = true then bnd (sr t2 8 (nI K).toNatClampNeg (nI (12 - 2))) (fun t4 => if (nI (12 - 2)) = 10 then (cal2 (f_X8_bounded F t4 0 99) (fun r16 t17 => if inb (nI K) 210 = true then bnd (sr t17 10 (nI K).toNatClampNeg r16) (fun t19 => if inb (t19.1 12) 3 = true then bnd (sr t19 12 (t19.1 12).toNatClampNeg (nI K)) (fun t21 => bnd (ss t21 12 ((t21.1 12) + 1)) (fun t22 => cal (f_X8_must F t22 4) (fun t23 => bnd (ss t23 11 ((t23.1 11) + 1)) (fun t24 => some t24)))) else none) else none)) else (if (nI (12 - 2)) = 11 then (bnd (ss t4 12 ((t4.1 12) - 1)) (fun t7 => if inb (t7.1 12) 3 = true then if inb (nI K) 210 = true then bnd (sr t7 11 (nI K).toNatClampNeg (t7.2.1 12 (t7.1 12).toNatClampNeg)) (fun t10 => if inb (t10.1 12) 3 = true then if inb (t10.2.1 12 (t10.1 12).toNatClampNeg) 210 = true then bnd (sr t10 11 (t10.2.1 12 (t10.1 12).toNatClampNeg).toNatClampNeg (nI K)) (fun t13 => cal (f_X8_must F t13 4) (fun t14 => bnd (ss t14 11 ((t14.1 11) + 1)) (fun t15 => some t15))) else none else none) else none else none)) else (f_X8_tellOne_182 F F t4 (nI K) (nI (12 - 2)) 0))) else none)) else (some τ)) = some (ss τ5 11 (nI (K + 1))) := by
      intro τ5 hm h11'
      have e10 : (12 : Nat) - 2 = 10 := rfl
      simp (disch := omega) only [↓bnd_i, ↓cal_s, ↓cal_n, ↓cal2_s, ↓cal2_n, cal_s, cal2_s, ↓reduceIte, fa_lit, m1_lit, m2_lit, m1_lt, m2_lt, m1_eq, m2_eq, m1_le, m2_le, le_m1, le_m2, lt_m1, lt_m2, m12, m21, m1_m1, n_lt, n_le, n_eq, lt_t, lt_f, le_t, le_f, eq_t, eq_f, n_cl, inb_ok, n_add, pk_mul, pk_sub, n_rem, n_div, n_dec, n_mx, n_mn, eq_m1, eq_m2, ss_same, ss_ne, ss_r, ss_l, sr_f, sr_l, sr_same, sr_ne, sw_f, sw_l, sw_at, sw_ne, pk_us, pk_un, bI_t, bI_f, not_true_eq_false, not_false_eq_true, eq_self, and_true, true_and, and_false, false_and, or_true, true_or, or_false, false_or, decide_true, decide_false, Bool.false_eq_true, Bool.true_eq_false, ↓cal_w (go), go, ↓cal2_w (b1), b1, g6, e10, h2]
      simp (disch := omega) only [↓bnd_i, ↓cal_s, ↓cal_n, ↓cal2_s, ↓cal2_n, cal_s, cal2_s, ↓reduceIte, fa_lit, m1_lit, m2_lit, m1_lt, m2_lt, m1_eq, m2_eq, m1_le, m2_le, le_m1, le_m2, lt_m1, lt_m2, m12, m21, m1_m1, n_lt, n_le, n_eq, lt_t, lt_f, le_t, le_f, eq_t, eq_f, n_cl, inb_ok, n_add, pk_mul, pk_sub, n_rem, n_div, n_dec, n_mx, n_mn, eq_m1, eq_m2, ss_same, ss_ne, ss_r, ss_l, sr_f, sr_l, sr_same, sr_ne, sw_f, sw_l, sw_at, sw_ne, pk_us, pk_un, bI_t, bI_f, not_true_eq_false, not_false_eq_true, eq_self, and_true, true_and, and_false, false_and, or_true, true_or, or_false, false_or, decide_true, decide_false, Bool.false_eq_true, Bool.true_eq_false, e12, h4]
      simp (disch := omega) only [↓bnd_i, ↓cal_s, ↓cal_n, ↓cal2_s, ↓cal2_n, cal_s, cal2_s, ↓reduceIte, fa_lit, m1_lit, m2_lit, m1_lt, m2_lt, m1_eq, m2_eq, m1_le, m2_le, le_m1, le_m2, lt_m1, lt_m2, m12, m21, m1_m1, n_lt, n_le, n_eq, lt_t, lt_f, le_t, le_f, eq_t, eq_f, n_cl, inb_ok, n_add, pk_mul, pk_sub, n_rem, n_div, n_dec, n_mx, n_mn, eq_m1, eq_m2, ss_same, ss_ne, ss_r, ss_l, sr_f, sr_l, sr_same, sr_ne, sw_f, sw_l, sw_at, sw_ne, pk_us, pk_un, bI_t, bI_f, not_true_eq_false, not_false_eq_true, eq_self, and_true, true_and, and_false, false_and, or_true, true_or, or_false, false_or, decide_true, decide_false, Bool.false_eq_true, Bool.true_eq_false, ↓cal_w (hm), hm, h11']
    by_cases x0 : (exO kd 20 (a + 1)).1 = 0
    · obtain ⟨k20, a5, x2⟩ := exO_1 x0
      have hae2 := ae (x := a + 1) (by omega) (by omega)
      rw [biO_0 x0, x2]
      have r6 : τ4.1 6 = nI 0 := by
        rw [← h4, ss_ne (by omega), sr_f, sr_f, MO_ok x0, ss_ne (by omega), ← h3, ss_ne (by omega), ss_ne (by omega)]; exact q6
      have r4 : τ4.1 4 = nI (a + 1 + 1) := by
        rw [← h4, ss_ne (by omega), sr_f, sr_f, MO_ok x0, ss_same, x2]
      obtain ⟨m2, K2⟩ := MK.of E (M.fr (τ' := τ4) (fun r _ => f4.2.1 r (by omega))) (show a + 1 + 1 ≤ e by omega) (by omega)
      have mu := t_mustO (F := F) r6 r4 (by omega) K2
      refine ⟨_, into _ mu (by rw [MO_k (by omega)]; exact e11), (f4.mo (pl := pl)).ss (by omega), fun q => ?_, fun q => ?_⟩
      · rw [MO_fl q]
        exact ⟨by rw [ss_ne (by omega), ss_ne (by omega), ss_same], by rw [ss_ne (by omega), ss_same]⟩
      · obtain ⟨k21, a6, x3⟩ := exO_1 q
        have hae3 := ae (x := a + 1 + 1) (by omega) (by omega)
        have hpsK : ps (K + 1) = a + 3 := by
          rw [hps K, ha, tO_12 hk, biO_0 n0, n2, biO_0 x0, x2, x3]
        have hdpK : dp (K + 1) = dp K + 1 := by rw [hdp K, ha, if_pos hk]
        rw [MO_ok q, x3]
        generalize h5 : ss (ss τ4 4 (nI (a + 1 + 1 + 1))) 11 (nI (K + 1)) = τ5
        have f5 : FmP τ τ5 := by rw [← h5]; exact (f4.ss (by omega)).ss (by omega)
        have rows : ∀ r, r ≠ 8 → r ≠ 10 → r ≠ 12 → τ5.2.1 r = τ.2.1 r := by
          intro r z1 z2 z3
          rw [← h5, ss_r, ss_r, ← h4, ss_r, sr_ne z3, sr_ne z2, MO_r, ← h3, ss_r, ss_r, ← h2, sr_ne z1, ss_r]
        have r8 : τ5.2.1 8 = upd (τ.2.1 8) K (nI 10) := by
          rw [← h5, ss_r, ss_r, ← h4, ss_r, sr_ne (by omega), sr_ne (by omega), MO_r, ← h3, ss_r, ss_r, ← h2, sr_same, ss_r]
        have r10 : τ5.2.1 10 = upd (τ.2.1 10) K v := by
          rw [← h5, ss_r, ss_r, ← h4, ss_r, sr_ne (by omega), sr_same, MO_r, ← h3, ss_r, ss_r, ← h2, sr_ne (by omega), ss_r]
        have r12 : τ5.2.1 12 = upd (τ.2.1 12) (dp K) (nI K) := by
          rw [← h5, ss_r, ss_r, ← h4, ss_r, sr_same, sr_ne (by omega), MO_r, ← h3, ss_r, ss_r, ← h2, sr_ne (by omega), ss_r]
        refine ⟨c, ⟨M.fr (fun r _ => f5.2.1 r (by omega)), ?_, ?_, ?_, ?_, ?_, ?_, by omega⟩, ⟨by omega, by omega, by omega⟩, ?_, ⟨⟨?_, ?_⟩, ?_, by omega, ⟨by omega, by rw [ha]; exact hk, o2.symm, fun j h1 h2 => ?_, OpR_up o4 (by omega)⟩⟩, fun k hk' => ?_, fun d hd' hkd => ?_, fun x' hx' hkx => ?_⟩
        · rw [← h5, ss_ne (by omega), ss_ne (by omega)]; exact r6
        · rw [← h5, ss_ne (by omega), ss_same, hpsK]
        · rw [← h5, ss_ne (by omega), ss_ne (by omega), ← h4, ss_ne (by omega), sr_f, sr_f, MO_k (by omega), ← h3, ss_ne (by omega), ss_ne (by omega), ← h2, sr_f, ss_ne (by omega)]; exact g5
        · rw [← h5, ss_same]
        · rw [← h5, ss_ne (by omega), ss_ne (by omega), ← h4, ss_same, hdpK]
        · rw [← h5, ss_ne (by omega), ss_ne (by omega), ← h4, ss_ne (by omega), sr_f, sr_f, MO_k (by omega), ← h3, ss_ne (by omega), ss_ne (by omega), ← h2, sr_f, ss_ne (by omega)]; exact g13
        · refine (b3 x0).step (by omega) (fun n h1 h2 => wrg_n ?_) ?_ ?_
          · rw [show n = a + 1 + 1 by omega, k21]; omega
          · rw [← h5, ss_ne (by omega), ss_ne (by omega), ← h4, ss_ne (by omega), sr_f, sr_f, MO_k (by omega)]
          · rw [← h5, ss_ne (by omega), ss_ne (by omega), ← h4, ss_ne (by omega), sr_f, sr_f, MO_k (by omega)]
        · rw [r12, o2, pk_us]
        · rw [r12]; exact wsR_upd (by omega) o1
        · rw [hdpK, ← o2]; rfl
        · rw [show j = K + 1 by omega, hdpK]; omega
        · by_cases z : k = K
          · subst z
            refine ⟨?_, ?_, ⟨?_, fun j h1 h2 => ?_⟩, by omega, fun _ => ⟨hd, ?_, ?_, ?_⟩, fun q => ?_, fun q => ?_⟩
            · rw [r8, pk_us, ha, hk]
            · rw [ha, hk]; omega
            · rw [ha, hpsK]; omega
            · rw [ha] at h1
              rcases (show j = a + 1 ∨ j = a + 1 + 1 by omega) with z | z
              · rw [z]; omega
              · rw [z, k21]; omega
            · rw [ha, hpsK]
            · rw [ha]; exact k20
            · rw [r10, pk_us, ha, b2 k20]
            · rw [ha] at q; omega
            · rw [ha] at q; omega
          · exact PT_keep (K := K) (P k (by omega)) (by omega) (by rw [r8, pk_un z]) (by rw [r10, pk_un z]) (fun j _ => by rw [rows 9 (by omega) (by omega) (by omega)]) (fun i _ => by rw [rows 13 (by omega) (by omega) (by omega), rows 14 (by omega) (by omega) (by omega)]; exact ⟨rfl, rfl⟩) (Nat.le_refl c)
        · by_cases z : d = K
          · rw [z]; exact Or.inl List.mem_cons_self
          · rw [rows 11 (by omega) (by omega) (by omega)]
            rcases Q1 d (by omega) hkd with y | ⟨x', y1, y2⟩
            · exact Or.inl (List.mem_cons_of_mem _ y)
            · exact Or.inr ⟨x', by omega, y2⟩
        · rw [rows 11 (by omega) (by omega) (by omega)]
          by_cases z : x' = K
          · rw [z, ha] at hkx; omega
          · exact Q2 x' (by omega) hkx
    · rw [biO_n x0]
      have gx := exO_g E (t := 20) (by omega) (show a + 1 ≤ e by omega) (show a + 1 ≤ 400 by omega)
      have r6 : τ4.1 6 = nI (exO kd 20 (a + 1)).1 := by
        rw [← h4, ss_ne (by omega), sr_f, sr_f, MO_fl x0, ss_ne (by omega), ss_same]
      have mu := t_mustF (F := F) (y := nI 4) r6 (by have := gx.1; omega)
      refine ⟨_, into _ mu e11, f4.ss (by omega), fun _ => ⟨?_, ?_⟩, fun q => absurd q x0⟩
      · rw [ss_ne (by omega)]; exact r6
      · rw [ss_ne (by omega), ← h4, ss_ne (by omega), sr_f, sr_f, MO_fl x0, ss_same]
  · have gx : (nxO a).1 = 2 ∧ (nxO a).2 = a := by
      unfold nxO at n0 ⊢
      by_cases z : a < 400
      · rw [if_pos z] at n0; exact absurd rfl n0
      · rw [if_neg z]; exact ⟨rfl, rfl⟩
    rw [biO_n n0]
    rw [MO_fl n0] at go
    generalize h2 : sr (ss (ss τ 6 (nI (nxO a).1)) 7 (nI (pl (nxO a).2))) 8 K (nI 10) = τ2
    have f2 : FmP τ τ2 := by rw [← h2]; exact (((FmP.refl τ).ss (by omega)).ss (by omega)).sr (by omega)
    have q6 : τ2.1 6 = nI 2 := by rw [← h2, sr_f, ss_ne (by omega), ss_same, gx.1]
    have q12 : τ2.1 12 = nI (dp K) := by rw [← h2, sr_f, ss_ne (by omega), ss_ne (by omega)]; exact g12
    have q11 : τ2.1 11 = nI K := by rw [← h2, sr_f, ss_ne (by omega), ss_ne (by omega)]; exact g11
    have b1 := t_boundedF (F := F) (y := nI 0) (z := nI 99) q6 (by omega)
    generalize h4 : ss (sr (sr τ2 10 K (nI 0)) 12 (dp K) (nI K)) 12 (nI (dp K + 1)) = τ4
    have f4 : FmP τ τ4 := by rw [← h4]; exact ((f2.sr (by omega)).sr (by omega)).ss (by omega)
    have r6 : τ4.1 6 = nI 2 := by rw [← h4, ss_ne (by omega), sr_f, sr_f]; exact q6
    have r11 : τ4.1 11 = nI K := by rw [← h4, ss_ne (by omega), sr_f, sr_f]; exact q11
    have mu := t_mustF (F := F) (y := nI 4) r6 (by omega)
    refine ⟨ss τ4 11 (nI (K + 1)), ?_, f4.ss (by omega), fun _ => ⟨?_, ?_⟩, fun q => absurd q n0⟩
    · have e10 : (12 : Nat) - 2 = 10 := rfl
      simp (disch := omega) only [↓bnd_i, ↓cal_s, ↓cal_n, ↓cal2_s, ↓cal2_n, cal_s, cal2_s, ↓reduceIte, fa_lit, m1_lit, m2_lit, m1_lt, m2_lt, m1_eq, m2_eq, m1_le, m2_le, le_m1, le_m2, lt_m1, lt_m2, m12, m21, m1_m1, n_lt, n_le, n_eq, lt_t, lt_f, le_t, le_f, eq_t, eq_f, n_cl, inb_ok, n_add, pk_mul, pk_sub, n_rem, n_div, n_dec, n_mx, n_mn, eq_m1, eq_m2, ss_same, ss_ne, ss_r, ss_l, sr_f, sr_l, sr_same, sr_ne, sw_f, sw_l, sw_at, sw_ne, pk_us, pk_un, bI_t, bI_f, not_true_eq_false, not_false_eq_true, eq_self, and_true, true_and, and_false, false_and, or_true, true_or, or_false, false_or, decide_true, decide_false, Bool.false_eq_true, Bool.true_eq_false, ↓cal_w (go), go, ↓cal2_w (b1), b1, g6, e10, h2]
      simp (disch := omega) only [↓bnd_i, ↓cal_s, ↓cal_n, ↓cal2_s, ↓cal2_n, cal_s, cal2_s, ↓reduceIte, fa_lit, m1_lit, m2_lit, m1_lt, m2_lt, m1_eq, m2_eq, m1_le, m2_le, le_m1, le_m2, lt_m1, lt_m2, m12, m21, m1_m1, n_lt, n_le, n_eq, lt_t, lt_f, le_t, le_f, eq_t, eq_f, n_cl, inb_ok, n_add, pk_mul, pk_sub, n_rem, n_div, n_dec, n_mx, n_mn, eq_m1, eq_m2, ss_same, ss_ne, ss_r, ss_l, sr_f, sr_l, sr_same, sr_ne, sw_f, sw_l, sw_at, sw_ne, pk_us, pk_un, bI_t, bI_f, not_true_eq_false, not_false_eq_true, eq_self, and_true, true_and, and_false, false_and, or_true, true_or, or_false, false_or, decide_true, decide_false, Bool.false_eq_true, Bool.true_eq_false, q12, h4]
      simp (disch := omega) only [↓bnd_i, ↓cal_s, ↓cal_n, ↓cal2_s, ↓cal2_n, cal_s, cal2_s, ↓reduceIte, fa_lit, m1_lit, m2_lit, m1_lt, m2_lt, m1_eq, m2_eq, m1_le, m2_le, le_m1, le_m2, lt_m1, lt_m2, m12, m21, m1_m1, n_lt, n_le, n_eq, lt_t, lt_f, le_t, le_f, eq_t, eq_f, n_cl, inb_ok, n_add, pk_mul, pk_sub, n_rem, n_div, n_dec, n_mx, n_mn, eq_m1, eq_m2, ss_same, ss_ne, ss_r, ss_l, sr_f, sr_l, sr_same, sr_ne, sw_f, sw_l, sw_at, sw_ne, pk_us, pk_un, bI_t, bI_f, not_true_eq_false, not_false_eq_true, eq_self, and_true, true_and, and_false, false_and, or_true, true_or, or_false, false_or, decide_true, decide_false, Bool.false_eq_true, Bool.true_eq_false, ↓cal_w (mu), mu, r11]
    · rw [ss_ne (by omega), r6, gx.1]
    · rw [ss_ne (by omega), ← h4, ss_ne (by omega), sr_f, sr_f, ← h2, sr_f, ss_same]
end
