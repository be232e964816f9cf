/-! PURE: the model's end, and its other tells -/
section
variable {F : Nat} {kd vl pl : Nat → Nat} {e : Nat} {ps dp : Nat → Nat}
theorem nxO_n {a : Nat} (n0 : (nxO a).1 ≠ 0) : (nxO a).1 = 2 ∧ (nxO a).2 = a := by
  unfold nxO at n0 ⊢
  by_cases z : a < 400
  · rw [if_pos z] at n0; exact absurd rfl n0
  · rw [if_neg z]; exact ⟨rfl, rfl⟩
theorem t_endM (hF : 1000 < F) (E : TkE kd vl pl e) (hps : ∀ k, ps (k + 1) = (tO F kd vl (ps k)).2) (hdp : ∀ k, dp (k + 1) = if kd (ps k) = 12 then dp k + 1 else if kd (ps k) = 13 then dp k - 1 else dp k) {K c : Nat} {ob : List Nat} {τ : St} (G : GS F kd vl pl e ps dp K c ob τ) (hk : kd (ps K) = 13) (hd : 0 < dp K) : TellR F kd vl pl e ps dp K ob.tail τ := by
  have E' := E
  obtain ⟨e1, e2, e3, e4, e5, e6⟩ := E'
  obtain ⟨⟨M, g6, g4, g5, g11, g12, g13, gc⟩, ⟨a1, a2, a3⟩, W, ⟨o1, o2, o3, o4⟩, P, Q1, Q2⟩ := G
  generalize ha : ps K = a at *
  obtain ⟨m, K0⟩ := MK.of E M a1 a2
  have ae : ∀ {x : Nat}, x ≤ e → kd x ≤ 28 → x < e := fun {x} h1 h2 => by
    by_cases z : x = e
    · rw [z] at h2; rcases e3 with y | y <;> omega
    · omega
  have hae := ae a1 (by omega)
  have r70 := t_tell70 (F := F) g6 g4 a2 g11 g12 o3 K0 (by omega) (fun q => by omega) (fun _ => hd)
  rw [hk] at r70
  have go := t_goO (F := F) g6 g4 a2 K0
  cases ob with
  | nil => have o2 : 0 = dp K := o2; omega
  | cons d r =>
    have o2' : r.length + 1 = dp K := o2
    obtain ⟨p1, p2, p3, p4, p5⟩ := o4
    have w0 : τ.2.1 12 r.length = nI d := o1.1
    have er : dp K - 1 = r.length := by omega
    unfold TellR
    rw [ha, r70, tO_13 hk]
    unfold f_X8_tellOne_70
    generalize h1 : MO pl (nxO a) τ = τ1 at *
    have f1 : FmP τ τ1 := by rw [← h1]; exact (FmP.refl τ).mo
    have s1 : τ1.2 = τ.2 := by rw [← h1]; exact MO_r
    generalize h2 : sr (sr (ss (sr τ1 8 K (nI 11)) 12 (nI r.length)) 11 K (nI d)) 11 d (nI K) = τ2
    have f2 : FmP τ τ2 := by rw [← h2]; exact (((f1.sr (by omega)).ss (by omega)).sr (by omega)).sr (by omega)
    have t12 : τ1.1 12 = nI (dp K) := by rw [← h1, MO_k (by omega)]; exact g12
    have t11 : τ2.1 11 = nI K := by rw [← h2, sr_f, sr_f, ss_ne (by omega), sr_f, ← h1, MO_k (by omega)]; exact g11
    have w0' : τ1.2.1 12 r.length = nI d := by rw [s1]; exact w0
    have into : ∀ τ5, f_X8_must F τ2 (nI 4) = some τ5 → τ5.1 11 = nI K → (if (τ.1 6) ≤ 0 then (cal (f_X8_goesOn F τ) (fun t2 => if inb (nI K) 210 = true then bnd (sr t2 8 (nI K).toNatClampNeg (nI (13 - 2))) (fun t4 => if (nI (13 - 2)) = 10 then (cal2 (f_X8_bounded F t4 0 99) (fun r16 t17 => if inb (nI K) 210 = true then bnd (sr t17 10 (nI K).toNatClampNeg r16) (fun t19 => if inb (t19.1 12) 3 = true then bnd (sr t19 12 (t19.1 12).toNatClampNeg (nI K)) (fun t21 => bnd (ss t21 12 ((t21.1 12) + 1)) (fun t22 => cal (f_X8_must F t22 4) (fun t23 => bnd (ss t23 11 ((t23.1 11) + 1)) (fun t24 => some t24)))) else none) else none)) else (if (nI (13 - 2)) = 11 then (bnd (ss t4 12 ((t4.1 12) - 1)) (fun t7 => if inb (t7.1 12) 3 = true then if inb (nI K) 210 = true then bnd (sr t7 11 (nI K).toNatClampNeg (t7.2.1 12 (t7.1 12).toNatClampNeg)) (fun t10 => if inb (t10.1 12) 3 = true then if inb (t10.2.1 12 (t10.1 12).toNatClampNeg) 210 = true then bnd (sr t10 11 (t10.2.1 12 (t10.1 12).toNatClampNeg).toNatClampNeg (nI K)) (fun t13 => cal (f_X8_must F t13 4) (fun t14 => bnd (ss t14 11 ((t14.1 11) + 1)) (fun t15 => some t15))) else none else none) else none else none)) else (f_X8_tellOne_182 F F t4 (nI K) (nI (13 - 2)) 0))) else none)) else (some τ)) = some (ss τ5 11 (nI (K + 1))) := by
      intro τ5 hm h11'
      have iK : inb (nI K) 210 = true := inb_ok (by omega) (by omega)
      have iR : inb (nI r.length) 3 = true := inb_ok (by omega) (by omega)
      have iD : inb (nI d) 210 = true := inb_ok (by omega) (by omega)
      have le0 : nI 0 ≤ (0 : Int32) := by decide
      have n10 : ¬ nI (13 - 2) = (10 : Int32) := by decide
      have n11 : nI (13 - 2) = (11 : Int32) := rfl
      have sB : nI (dp K) - (1 : Int32) = nI r.length := by
        rw [← o2']
        exact n_sub1 r.length
      have hA : (sr τ1 8 K (nI (13 - 2))).1 12 - 1 = nI r.length := by rw [sr_f, t12]; exact sB
      rw [g6, if_pos le0, cal_w go, if_pos iK, bnd_i, n_cl (a := K) (by omega), if_neg n10, if_pos n11, bnd_i, hA]
      have hB1 : (ss (sr τ1 8 K (nI (13 - 2))) 12 (nI r.length)).1 12 = nI r.length := ss_same
      have hB2 : (ss (sr τ1 8 K (nI (13 - 2))) 12 (nI r.length)).2.1 12 r.length = nI d := by rw [ss_r, sr_ne (by omega)]; exact w0'
      rw [hB1, if_pos iR, bnd_i, n_cl (a := r.length) (by omega), hB2]
      have hC1 : (sr (ss (sr τ1 8 K (nI (13 - 2))) 12 (nI r.length)) 11 K (nI d)).1 12 = nI r.length := hB1
      have hC2 : (sr (ss (sr τ1 8 K (nI (13 - 2))) 12 (nI r.length)) 11 K (nI d)).2.1 12 r.length = nI d := by rw [sr_ne (by omega)]; exact hB2
      rw [hC1, if_pos iR, n_cl (a := r.length) (by omega), hC2, if_pos iD, bnd_i, n_cl (a := d) (by omega)]
      have h2' : sr (sr (ss (sr τ1 8 K (nI (13 - 2))) 12 (nI r.length)) 11 K (nI d)) 11 d (nI K) = τ2 := h2
      rw [h2', show (4 : Int32) = nI 4 from rfl, cal_w hm, bnd_i, h11', show nI K + (1 : Int32) = nI (K + 1) from n_add K 1, if_pos iK]
    by_cases n0 : (nxO a).1 = 0
    · obtain ⟨a4, n2⟩ := nxO_1 n0
      rw [biO_0 n0, n2]
      rw [MO_ok n0, n2] at h1
      have r6 : τ2.1 6 = nI 0 := by rw [← h2, sr_f, sr_f, ss_ne (by omega), sr_f, ← h1, ss_ne (by omega)]; exact g6
      have r4 : τ2.1 4 = nI (a + 1) := by rw [← h2, sr_f, sr_f, ss_ne (by omega), sr_f, ← h1, ss_same]
      obtain ⟨m2, K2⟩ := MK.of E (M.fr (τ' := τ2) (fun r _ => f2.2.1 r (by omega))) (show a + 1 ≤ e by omega) (by omega)
      have mu := t_mustO (F := F) r6 r4 (by omega) K2
      refine ⟨_, into _ mu (by rw [MO_k (by omega)]; exact t11), (f2.mo (pl := pl)).ss (by omega), fun q => ?_, fun q => ?_⟩
      · rw [MO_fl q]
        exact ⟨by rw [ss_ne (by omega), ss_ne (by omega), ss_same], by rw [ss_ne (by omega), ss_same]⟩
      · obtain ⟨k21, a6, x3⟩ := exO_1 q
        have hae3 := ae (x := a + 1) (by omega) (by omega)
        have hpsK : ps (K + 1) = a + 2 := by
          rw [hps K, ha, tO_13 hk, biO_0 n0, n2, x3]
        have hdpK : dp (K + 1) = r.length := by rw [hdp K, ha, if_neg (by omega), if_pos hk]; omega
        rw [MO_ok q, x3]
        generalize h5 : ss (ss τ2 4 (nI (a + 1 + 1))) 11 (nI (K + 1)) = τ5
        have f5 : FmP τ τ5 := by rw [← h5]; exact (f2.ss (by omega)).ss (by omega)
        have rows : ∀ x, x ≠ 8 → x ≠ 11 → τ5.2.1 x = τ.2.1 x := by
          intro x z1 z2
          rw [← h5, ss_r, ss_r, ← h2, sr_ne z2, sr_ne z2, ss_r, sr_ne z1, s1]
        have r8 : τ5.2.1 8 = upd (τ.2.1 8) K (nI 11) := by
          rw [← h5, ss_r, ss_r, ← h2, sr_ne (by omega), sr_ne (by omega), ss_r, sr_same, s1]
        have r11 : τ5.2.1 11 = upd (upd (τ.2.1 11) K (nI d)) d (nI K) := by
          rw [← h5, ss_r, ss_r, ← h2, sr_same, sr_same, ss_r, sr_ne (by omega), s1]
        have newM : Mate kd ps dp (τ5.2.1 11) d K := ⟨p1, p2, by rw [ha]; exact hk, by rw [r11, pk_us], by rw [r11, pk_un (by omega), pk_us], by omega, fun j h1 h2 => by rw [p3]; exact p4 j h1 h2⟩
        have oldM : ∀ d' x', x' < K → Mate kd ps dp (τ.2.1 11) d' x' → Mate kd ps dp (τ5.2.1 11) d' x' := by
          intro d' x' hx hm
          obtain ⟨y1, y2, y3, y4, y5, y6, y7⟩ := hm
          have nx : x' ≠ d := fun z => by rw [z] at y3; omega
          have nd : d' ≠ d := fun z => by
            have h1 := hdp x'
            rw [if_neg (by omega), if_pos y3] at h1
            have h2 := p4 (x' + 1) (by omega) (by omega)
            rw [z, p3] at y6
            omega
          exact ⟨y1, y2, y3, by rw [r11, pk_un nd, pk_un (by omega)]; exact y4, by rw [r11, pk_un nx, pk_un (by omega)]; exact y5, y6, y7⟩
        refine ⟨c, ⟨M.fr (fun r _ => f5.2.1 r (by omega)), ?_, ?_, ?_, ?_, ?_, ?_, by omega⟩, ⟨by omega, by omega, by omega⟩, ?_, ⟨?_, ?_, by omega, OpR_up p5 ?_⟩, fun k hk' => ?_, fun d' hd' hkd => ?_, fun x' hx' hkx => ?_⟩
        · rw [← h5, ss_ne (by omega), ss_ne (by omega)]; exact r6
        · rw [← h5, ss_ne (by omega), ss_same, hpsK]
        · rw [← h5, ss_ne (by omega), ss_ne (by omega), ← h2, sr_f, sr_f, ss_ne (by omega), sr_f, ← h1, ss_ne (by omega)]; exact g5
        · rw [← h5, ss_same]
        · rw [← h5, ss_ne (by omega), ss_ne (by omega), ← h2, sr_f, sr_f, ss_same, hdpK]
        · rw [← h5, ss_ne (by omega), ss_ne (by omega), ← h2, sr_f, sr_f, ss_ne (by omega), sr_f, ← h1, ss_ne (by omega)]; exact g13
        · rw [hpsK]
          refine W.step (by omega) (fun n h1 h2 => wrg_n ?_) ?_ ?_
          · rcases (show n = a ∨ n = a + 1 by omega) with z | z
            · rw [z, hk]; omega
            · rw [z, k21]; omega
          · rw [← h5, ss_ne (by omega), ss_ne (by omega), ← h2, sr_f, sr_f, ss_ne (by omega), sr_f, ← h1, ss_ne (by omega)]
          · rw [← h5, ss_ne (by omega), ss_ne (by omega), ← h2, sr_f, sr_f, ss_ne (by omega), sr_f, ← h1, ss_ne (by omega)]
        · rw [rows 12 (by omega) (by omega)]; exact o1.2
        · rw [hdpK]; rfl
        · rw [hdpK]; exact Nat.le_refl _
        · by_cases z : k = K
          · subst z
            refine ⟨?_, ?_, ⟨?_, fun j h1 h2 => ?_⟩, by omega, fun q => ?_, fun _ => ⟨by omega, ?_⟩, fun q => ?_⟩
            · rw [r8, pk_us, ha, hk]
            · rw [ha, hk]; omega
            · rw [ha, hpsK]; omega
            · rw [ha] at h1
              rw [show j = a + 1 by omega, k21]; omega
            · rw [ha] at q; omega
            · rw [ha, hpsK]
            · rw [ha] at q; omega
          · exact PT_keep (K := K) (P k (by omega)) (by omega) (by rw [r8, pk_un z]) (by rw [rows 10 (by omega) (by omega)]) (fun j _ => by rw [rows 9 (by omega) (by omega)]) (fun i _ => by rw [rows 13 (by omega) (by omega), rows 14 (by omega) (by omega)]; exact ⟨rfl, rfl⟩) (Nat.le_refl c)
        · by_cases z : d' = K
          · rw [z, ha] at hkd; omega
          · rcases Q1 d' (by omega) hkd with y | ⟨x', y1, y2⟩
            · rcases List.mem_cons.mp y with w | w
              · rw [w]; exact Or.inr ⟨K, by omega, newM⟩
              · exact Or.inl w
            · exact Or.inr ⟨x', by omega, oldM d' x' y1 y2⟩
        · by_cases z : x' = K
          · rw [z]; exact ⟨d, newM⟩
          · obtain ⟨d', y⟩ := Q2 x' (by omega) hkx
            exact ⟨d', oldM d' x' (by omega) y⟩
    · obtain ⟨nx1, nx2⟩ := nxO_n n0
      rw [biO_n n0]
      rw [MO_fl n0] at h1
      have r6 : τ2.1 6 = nI 2 := by rw [← h2, sr_f, sr_f, ss_ne (by omega), sr_f, ← h1, ss_ne (by omega), ss_same, nx1]
      have mu := t_mustF (F := F) (y := nI 4) r6 (by omega)
      refine ⟨_, into _ mu t11, f2.ss (by omega), fun _ => ⟨?_, ?_⟩, fun q => absurd q n0⟩
      · rw [ss_ne (by omega), r6, nx1]
      · rw [ss_ne (by omega), ← h2, sr_f, sr_f, ss_ne (by omega), sr_f, ← h1, ss_same]
theorem t_tellM (hF : 1000 < F) (E : TkE kd vl pl e) (hps : ∀ k, ps (k + 1) = (tO F kd vl (ps k)).2) (hdp : ∀ k, dp (k + 1) = if kd (ps k) = 12 then dp k + 1 else if kd (ps k) = 13 then dp k - 1 else dp k) {K c : Nat} {ob : List Nat} {τ : St} (G : GS F kd vl pl e ps dp K c ob τ) (hk : 2 ≤ kd (ps K) ∧ kd (ps K) ≤ 11) : TellR F kd vl pl e ps dp K ob τ := by
  have E' := E
  obtain ⟨e1, e2, e3, e4, e5, e6⟩ := E'
  obtain ⟨⟨M, g6, g4, g5, g11, g12, g13, gc⟩, ⟨a1, a2, a3⟩, W, ⟨o1, o2, o3, o4⟩, P, Q1, Q2⟩ := G
  generalize ha : ps K = a at *
  obtain ⟨m, K0⟩ := MK.of E M a1 a2
  have ae : ∀ {x : Nat}, x ≤ e → kd x ≤ 28 → x < e := fun {x} h1 h2 => by
    by_cases z : x = e
    · rw [z] at h2; rcases e3 with y | y <;> omega
    · omega
  have hae := ae a1 (by omega)
  have r70 := t_tell70 (F := F) g6 g4 a2 g11 g12 o3 K0 (by omega) (fun q => by omega) (fun q => by omega)
  have go := t_goO (F := F) g6 g4 a2 K0
  generalize hs : kd a - 2 = s at *
  have hs10 : s < 10 := by omega
  have hag := ag_le s hs10
  unfold TellR
  rw [ha, r70, tO_t hk, hs]
  unfold f_X8_tellOne_70
  generalize h1 : MO pl (nxO a) τ = τ1 at *
  have f1 : FmP τ τ1 := by rw [← h1]; exact (FmP.refl τ).mo
  have s1 : τ1.2 = τ.2 := by rw [← h1]; exact MO_r
  generalize h2 : sr τ1 8 K (nI s) = τ2
  have f2 : FmP τ τ2 := by rw [← h2]; exact f1.sr (by omega)
  have t11 : τ2.1 11 = nI K := by rw [← h2, sr_f, ← h1, MO_k (by omega)]; exact g11
  have into : ∀ τ5, f_X8_tellOne_182 F F τ2 (nI K) (nI s) (nI 0) = some τ5 → (if (τ.1 6) ≤ 0 then (cal (f_X8_goesOn F τ) (fun t2 => if inb (nI K) 210 = true then bnd (sr t2 8 (nI K).toNatClampNeg (nI s)) (fun t4 => if (nI s) = 10 then (cal2 (f_X8_bounded F t4 0 99) (fun r16 t17 => if inb (nI K) 210 = true then bnd (sr t17 10 (nI K).toNatClampNeg r16) (fun t19 => if inb (t19.1 12) 3 = true then bnd (sr t19 12 (t19.1 12).toNatClampNeg (nI K)) (fun t21 => bnd (ss t21 12 ((t21.1 12) + 1)) (fun t22 => cal (f_X8_must F t22 4) (fun t23 => bnd (ss t23 11 ((t23.1 11) + 1)) (fun t24 => some t24)))) else none) else none)) else (if (nI s) = 11 then (bnd (ss t4 12 ((t4.1 12) - 1)) (fun t7 => if inb (t7.1 12) 3 = true then if inb (nI K) 210 = true then bnd (sr t7 11 (nI K).toNatClampNeg (t7.2.1 12 (t7.1 12).toNatClampNeg)) (fun t10 => if inb (t10.1 12) 3 = true then if inb (t10.2.1 12 (t10.1 12).toNatClampNeg) 210 = true then bnd (sr t10 11 (t10.2.1 12 (t10.1 12).toNatClampNeg).toNatClampNeg (nI K)) (fun t13 => cal (f_X8_must F t13 4) (fun t14 => bnd (ss t14 11 ((t14.1 11) + 1)) (fun t15 => some t15))) else none else none) else none else none)) else (f_X8_tellOne_182 F F t4 (nI K) (nI s) 0))) else none)) else (some τ)) = some τ5 := by
    intro τ5 hm
    simp (disch := omega) only [↓bnd_i, ↓cal_s, ↓cal_n, ↓cal2_s, ↓cal2_n, cal_s, cal2_s, ↓reduceIte, fa_lit, m1_lit, m2_lit, m1_lt, m2_lt, m1_eq, m2_eq, m1_le, m2_le, le_m1, le_m2, lt_m1, lt_m2, m12, m21, m1_m1, n_lt, n_le, n_eq, lt_t, lt_f, le_t, le_f, eq_t, eq_f, n_cl, inb_ok, n_add, pk_mul, pk_sub, n_rem, n_div, n_dec, n_mx, n_mn, eq_m1, eq_m2, ss_same, ss_ne, ss_r, ss_l, sr_f, sr_l, sr_same, sr_ne, sw_f, sw_l, sw_at, sw_ne, pk_us, pk_un, bI_t, bI_f, not_true_eq_false, not_false_eq_true, eq_self, and_true, true_and, and_false, false_and, or_true, true_or, or_false, false_or, decide_true, decide_false, Bool.false_eq_true, Bool.true_eq_false, ↓cal_w (go), go, g6, h2]
    exact hm
  by_cases n0 : (nxO a).1 = 0
  · obtain ⟨a4, n2⟩ := nxO_1 n0
    rw [biO_0 n0, n2]
    rw [MO_ok n0, n2] at h1
    have q6 : τ2.1 6 = nI 0 := by rw [← h2, sr_f, ← h1, ss_ne (by omega)]; exact g6
    have q4 : τ2.1 4 = nI (qF F kd vl a 0) := by rw [← h2, sr_f, ← h1, ss_same]; rfl
    have q5 : τ2.1 5 = nI 0 := by rw [← h2, sr_f, ← h1, ss_ne (by omega)]; exact g5
    have q13 : τ2.1 13 = nI c := by rw [← h2, sr_f, ← h1, ss_ne (by omega)]; exact g13
    obtain ⟨τ', x1, x2, x3, x4, x5⟩ := t_182 (F := F) hF E (K := K) (s := s) (by omega) hs10 (p := qF F kd vl a) (fun j => rfl) F 0 c τ2 (M.fr (fun r _ => f2.2.1 r (by omega))) q6 q4 q5 q13 (by show c ≤ a + 1; omega) t11 (by omega) (by omega) (by show a + 1 ≤ e; omega) (by show a + 1 ≤ 400; omega)
    have e0 : qF F kd vl a 0 = a + 1 := rfl
    rw [Nat.sub_zero, e0] at x4 x5
    refine ⟨τ', into τ' x1, f2.trans x2.toP, x4, fun q => ?_⟩
    obtain ⟨y6, y4, y5, y2, y9, y9', c', yc, yc', y13, yE⟩ := x5 q
    have hpsK : ps (K + 1) = qF F kd vl a (agN s) + 1 := by rw [hps K, ha, tO_t hk, hs, biO_0 n0, n2, y2]
    have hdpK : dp (K + 1) = dp K := by rw [hdp K, ha, if_neg (by omega), if_neg (by omega)]
    -- the tokens of the tell
    have toks : (∀ j, a < j → j < ps (K + 1) → 14 ≤ kd j) ∧ a < ps (K + 1) ∧ a + 2 ≤ ps (K + 1) ∧ ps (K + 1) ≤ e ∧ ps (K + 1) ≤ 400 := by
      obtain ⟨z1, z2⟩ := exsO_P (F := F) hF E (agN s) (a + 1) (by omega) (by omega)
      have z0 : (exsO F kd vl (agN s) (a + 1)).1 = 0 := by
        by_cases z : (exsO F kd vl (agN s) (a + 1)).1 = 0
        · exact z
        · rw [biO_n z] at q; exact absurd q z
      obtain ⟨z3, z4⟩ := z2 z0
      rw [biO_0 z0] at q y2
      obtain ⟨k21, a6, x6⟩ := exO_1 q
      have hae3 := ae z1.2.1 (by omega)
      rw [y2] at x6
      have hp' : ps (K + 1) = (exsO F kd vl (agN s) (a + 1)).2 + 1 := by rw [hpsK]; omega
      refine ⟨fun j h1 h2 => ?_, by omega, by omega, by omega, by omega⟩
      by_cases w : j < (exsO F kd vl (agN s) (a + 1)).2
      · exact z4 j (by omega) w
      · rw [show j = (exsO F kd vl (agN s) (a + 1)).2 by omega, k21]; omega
    obtain ⟨tk1, tk2, tk3, tk4, tk5⟩ := toks
    have r8 : τ'.2.1 8 = upd (τ.2.1 8) K (nI s) := by rw [x2.2.1 8 (by omega), ← h2, sr_same, s1]
    have rows : ∀ r, r < 8 ∨ (9 < r ∧ r < 13) ∨ 15 < r → τ'.2.1 r = τ.2.1 r := by
      intro r hr
      rw [x2.2.1 r (by omega), ← h2, sr_ne (by omega), s1]
    have r9 : ∀ j, j < 4 * K → τ'.2.1 9 j = τ.2.1 9 j := fun j hj => by rw [x2.2.2.2.1 j hj, ← h2, sr_ne (by omega), s1]
    have rc : ∀ i, i < c → τ'.2.1 13 i = τ.2.1 13 i ∧ τ'.2.1 14 i = τ.2.1 14 i := fun i hi => by
      obtain ⟨w1, w2⟩ := x2.2.2.1 i hi
      rw [w1, w2, ← h2, sr_ne (by omega), sr_ne (by omega), s1]
      exact ⟨rfl, rfl⟩
    have fld : ∀ k, k ≠ 4 → k ≠ 5 → k ≠ 6 → k ≠ 7 → k ≠ 11 → k ≠ 13 → k ≠ 14 → τ'.1 k = τ.1 k := fun k z1 z2 z3 z4 z5 z6 z7 => by
      rw [x2.1 k z1 z2 z3 z4 z5 z6 z7, ← h2, sr_f, ← h1, ss_ne z1]
    refine ⟨c', ⟨M.fr (fun r _ => rows r (by omega)), y6, by rw [y4, y2, hpsK], y5, x3, ?_, y13, by omega⟩, ⟨tk4, tk5, by omega⟩, ?_, ⟨?_, by omega, by omega, OpR_up o4 (by omega)⟩, fun k hk' => ?_, fun d' hd' hkd => ?_, fun x' hx' hkx => ?_⟩
    · rw [fld 12 (by omega) (by omega) (by omega) (by omega) (by omega) (by omega) (by omega), g12, hdpK]
    · refine W.step (by omega) (fun n h1 h2 => wrg_n ?_) (fld 8 (by omega) (by omega) (by omega) (by omega) (by omega) (by omega) (by omega)) (fld 9 (by omega) (by omega) (by omega) (by omega) (by omega) (by omega) (by omega))
      by_cases z : n = a
      · rw [z]; omega
      · have := tk1 n (by omega) h2
        omega
    · rw [rows 12 (by omega)]; exact o1
    · by_cases z : k = K
      · subst z
        refine ⟨?_, ?_, ⟨?_, fun j h1 h2 => ?_⟩, by omega, fun q => ?_, fun q => ?_, fun _ => ⟨?_, ?_⟩⟩
        · rw [r8, pk_us, ha, hs]
        · rw [ha]; omega
        · rw [ha]; exact tk2
        · rw [ha] at h1; exact tk1 j h1 h2
        · rw [ha] at q; omega
        · rw [ha] at q; omega
        · rw [ha, hs]; exact hpsK
        · rw [ha, hs]; exact yE
      · exact PT_keep (K := K) (P k (by omega)) (by omega) (by rw [r8, pk_un z]) (by rw [rows 10 (by omega)]) r9 rc (by omega)
    · rw [rows 11 (by omega)]
      by_cases z : d' = K
      · rw [z, ha] at hkd; omega
      · rcases Q1 d' (by omega) hkd with y | ⟨x', y1, y2⟩
        · exact Or.inl y
        · exact Or.inr ⟨x', by omega, y2⟩
    · rw [rows 11 (by omega)]
      by_cases z : x' = K
      · rw [z, ha] at hkx; omega
      · exact Q2 x' (by omega) hkx
  · obtain ⟨nx1, nx2⟩ := nxO_n n0
    rw [biO_n n0]
    rw [MO_fl n0] at h1
    have r6 : τ2.1 6 = nI 2 := by rw [← h2, sr_f, ← h1, ss_ne (by omega), ss_same, nx1]
    obtain ⟨τ', y1, y2, y3, y4, y5⟩ := t_182F (F := F) (K := K) (s := s) (by omega) hs10 F 0 τ2 r6 (by omega) t11 (by omega) (by omega)
    refine ⟨τ', into τ' y1, f2.trans (y2 0).toP, fun _ => ⟨?_, ?_⟩, fun q => absurd q n0⟩
    · rw [y3, nx1]
    · rw [y4, ← h2, sr_f, ← h1, ss_same]
end
