/-! PURE: read, on both sides -/
theorem b255 (x : Int32) : ∃ b, b < 256 ∧ x &&& nI 255 = nI b := by
  refine ⟨(x &&& nI 255).toBitVec.toNat, ?_, ?_⟩
  · rw [Int32.toBitVec_and, BitVec.toNat_and]
    exact Nat.lt_of_le_of_lt Nat.and_le_right (by decide)
  · apply Int32.toBitVec_inj.1
    show _ = BitVec.ofNat 32 _
    rw [BitVec.ofNat_toNat, BitVec.setWidth_eq]
theorem narB0 : vp_nar .boolean (nI 0) = nI 0 := by decide +kernel
/-- the tape is copied -/
theorem t_copyT {F L : Nat} (hL : L ≤ 2000) {n : Nat} : ∀ (g i : Nat) (τ : St), i + g = L → τ.1 2 = nI L → (∀ j, j < L → vp_nar .byte (τ.2.1 1 j) = τ.2.1 1 j) → (∀ j, j < i → τ.2.1 2 j = τ.2.1 1 j) → ∃ f, (∀ j, j < L → f j = τ.2.1 1 j) ∧ f_X8_read_10 F (n + g) τ (nI i) = f_X8_read_10 F n (sw τ 2 f) (nI L) := by
  intro g
  induction g with
  | zero =>
    intro i τ h h2 hb hc
    have : i = L := by omega
    subst this
    exact ⟨τ.2.1 2, hc, by rw [sw_self]; rfl⟩
  | succ g ih =>
    intro i τ h h2 hb hc
    have nle : ¬ nI L ≤ nI i := by rw [n_le (by omega) (by omega)]; omega
    have ii : inb (nI i) 2000 = true := inb_ok (by omega) (by omega)
    have eA : nI i + (1 : Int32) = nI (i + 1) := n_add i 1
    obtain ⟨f, f1, f2⟩ := ih (i + 1) (sr τ 2 i (τ.2.1 1 i)) (by omega) h2 (fun j hj => by rw [sr_ne (by omega)]; exact hb j hj) (fun j hj => by
      rw [sr_same, sr_ne (by omega)]
      by_cases z : j = i
      · rw [z]; exact pk_us
      · exact (pk_un z).trans (hc j (by omega)))
    refine ⟨f, fun j hj => by rw [f1 j hj, sr_ne (by omega)], ?_⟩
    rw [← Nat.add_assoc, f_X8_read_10, h2, if_neg nle, if_pos ii, if_pos ii, bnd_i, bnd_i, n_cl (a := i) (by omega), hb i (by omega), eA, f2, sr_as, sw_sw]
/-- when nothing is run -/
theorem inv_f {σ τ σ' τ' : St} {ex : Nat → Bool} {β : Nat → St} (I : Inv σ τ ex β) (fs : ∀ i, i = 0 ∨ (3 ≤ i ∧ i ≤ 18) ∨ 25 < i → σ'.1 i = σ.1 i) (rs : ∀ r, r < 26 → σ'.2.1 r = σ.2.1 r) (f1 : σ'.1 1 = nI 0) (g1 : τ'.1 1 = nI 0) (fg : σ'.1 2 = τ'.1 10) (rt : ∀ r, 18 < r → τ'.2.1 r = τ.2.1 r) (l7 : τ'.2.2 7 = τ.2.2 7) : Inv σ' τ' ex β := by
  obtain ⟨C, sb, -, -, i5, ⟨hl, l1, l2, l3⟩, ks⟩ := I
  have e19 : nw τ' = nw τ := rt 19 (by omega)
  refine ⟨⟨by rw [e19]; exact C.1, by rw [e19]; exact JJ_same C.2 (fun i h1 h2 => fs i (by omega)) (fun r h1 h2 => rs r (by omega))⟩, ?_, ⟨0, by omega, f1, g1, fun i hi => by omega⟩, fg, ?_, ⟨hl, ?_, fun s hs => ?_, fun s hs q => ?_⟩, fun i hi => ?_⟩
  · unfold SB
    rw [fs 32 (by omega), fs 34 (by omega)]; exact sb
  · rw [fs 3 (by omega), e19]; exact i5
  · rw [fs 0 (by omega)]; exact l1
  · rw [rt 22 (by omega)]; exact l2 s hs
  · obtain ⟨x1, x2, x3, x4⟩ := l3 s hs q
    have eh : hw τ' s = hw τ s := by unfold hw; rw [rt 23 (by omega)]
    rw [eh, e19]
    exact ⟨x1, x2, x3, x4⟩
  · rw [l7]; exact ks i hi
theorem rd_all {F S : Nat} (hF : 8000 < F) (hS : 804 * 200000000 + 1 ≤ S) (hFS : (300 + 1) * S ≤ F) : RD F := by
  intro σ τ ex β I
  have I0 := I
  obtain ⟨C, sb, ⟨L, kL, s1, t1, tp'⟩, i4, i5, -, ks⟩ := I
  obtain ⟨b, hb⟩ : ∃ b : Nat → Nat, ∀ i, b i < 256 ∧ σ.2.1 9 i &&& nI 255 = nI (b i) := ⟨fun i => (b255 (σ.2.1 9 i)).choose, fun i => (b255 (σ.2.1 9 i)).choose_spec⟩
  obtain ⟨σa, e, a1, a2, a3⟩ := d_scan (F := F) (by omega) (b := b) (L := L) (σ := σ) ⟨kL, fun i _ => ⟨(hb i).2, (hb i).1⟩⟩
  obtain ⟨n0, hn0⟩ : ∃ n0, F = n0 + 1 + L := ⟨F - 1 - L, by omega⟩
  obtain ⟨f, f1, f2⟩ := t_copyT (F := F) kL (n := n0 + 1) L 0 (ss τ 2 (nI L)) (by omega) ss_same (fun j hj => by rw [ss_r, ← (tp' j hj).1]; exact (tp' j hj).2) (fun j hj => by omega)
  rw [← hn0] at f2
  generalize hτ0 : ss (sw (ss τ 2 (nI L)) 2 f) 1 (nI 0) = τ0
  have TM : TxM b L τ0 := by
    refine ⟨kL, ?_, fun i hi => ?_, fun i hi => ?_⟩
    · rw [← hτ0, ss_ne (by omega), sw_f]; exact ss_same
    · rw [← hτ0, ss_r, sw_at, f1 i hi, ss_r, ← (tp' i hi).1]; exact ⟨(hb i).2, (hb i).1⟩
    · rw [← hτ0]; exact ks i hi
  obtain ⟨τa, c1, c2, c3⟩ := t_cutsUp (F := F) (by omega) TM
  obtain ⟨kd, vl, pl, E, D, M⟩ := toks kL a2 c2
  generalize hσb : ss σa 1 (nI 0) = σb
  have Db : TkD kd vl pl e σb := ⟨by rw [← hσb, ss_ne (by omega)]; exact D.1, by rw [← hσb]; exact D.2⟩
  generalize hτb : ss (ss (ss (ss (ss (ss (ss τa 4 (nI 0)) 5 (nI 0)) 6 (nI 0)) 8 (nI 0)) 11 (nI 0)) 12 (nI 0)) 13 (nI 0) = τb
  have Nb : Fn kd vl pl e 0 τb := by
    refine ⟨by rw [← hτb]; exact M, ?_, ?_, ?_, ?_, ?_, ?_, Nat.zero_le _, Nat.zero_le _, Or.inl ⟨?_, fun n hn => absurd hn (Nat.not_lt_zero _)⟩⟩
    · rw [← hτb, ss_ne (by omega), ss_ne (by omega), ss_ne (by omega), ss_ne (by omega), ss_same]
    · rw [← hτb, ss_ne (by omega), ss_ne (by omega), ss_ne (by omega), ss_ne (by omega), ss_ne (by omega), ss_ne (by omega), ss_same]
    · rw [← hτb, ss_ne (by omega), ss_ne (by omega), ss_ne (by omega), ss_ne (by omega), ss_ne (by omega), ss_same]
    · rw [← hτb, ss_ne (by omega), ss_ne (by omega), ss_same]
    · rw [← hτb, ss_ne (by omega), ss_same]
    · rw [← hτb, ss_same]
    · rw [← hτb, ss_ne (by omega), ss_ne (by omega), ss_ne (by omega), ss_same]
  obtain ⟨σc, τc, v, w, d1, d2, d3, d4, d5⟩ := chkA (F := F) (by omega) E Db Nb
  have hd : f_X7_read F σ = bnd (ss σc 2 (σc.1 22)) (fun t4 => if (t4.1 21) = 0 then (cal (f_X5_begin F t4 (t4.1 23) (t4.1 24)) (fun t6 => bnd (ss t6 0 0) (fun t7 => cal (f_X7_perform F t7) (fun t8 => some (0, t8))))) else (some ((t4.1 21), t4))) := by
    have d1' : f_X1_check F (ss σa 1 0) = some σc := by
      have : ss σa 1 0 = σb := hσb
      rw [this]; exact d1
    unfold f_X7_read
    rw [s1, cal_w a1, bnd_i, cal_w d1']
  have hm : f_X8_read F τ = f_X8_read_143 F τc v w := by
    have d3' : cal2 (f_X8_toldOr F τb 20 1 8 4) (fun r11 t12 => cal2 (f_X8_toldOr F t12 21 2 8 4) (fun r13 t14 => f_X8_read_102 F F t14 r11 r13)) = f_X8_read_143 F τc v w := d3
    have hb' : ss (ss (ss (ss (ss (ss (ss τa 4 0) 5 0) 6 0) 8 0) 11 0) 12 0) 13 0 = τb := hτb
    have c1' : f_X8_cutsUp F (ss (sw (ss τ 2 (nI L)) 2 f) 1 0) = some τa := by
      have : ss (sw (ss τ 2 (nI L)) 2 f) 1 0 = τ0 := hτ0
      rw [this]; exact c1
    have f2' : f_X8_read_10 F F (ss τ 2 (nI L)) 0 = f_X8_read_10 F (n0 + 1) (sw (ss τ 2 (nI L)) 2 f) (nI L) := f2
    have e2 : (sw (ss τ 2 (nI L)) 2 f).1 2 = nI L := by rw [sw_f]; exact ss_same
    unfold f_X8_read
    rw [t1, bnd_i, f2', f_X8_read_10, e2, if_pos (Int32.le_refl _), bnd_i, cal_w c1', bnd_i, bnd_i, bnd_i, bnd_i, bnd_i, bnd_i, bnd_i, hb']
    exact d3'
  -- frames
  have A1 : ∀ i, i ≠ 1 → i < 19 ∨ 25 < i → σc.1 i = σ.1 i := fun i h1 h2 => by rw [d2.1 i (by omega), ← hσb, ss_ne h1, a3.1 i (by omega)]
  have A2 : ∀ r, r < 26 → σc.2.1 r = σ.2.1 r := fun r hr => by rw [d2.2, ← hσb, ss_r, a3.2.1 r (by omega)]
  have A3 : σc.1 1 = nI 0 := by rw [d2.1 1 (by omega), ← hσb, ss_same]
  have bf : ∀ i, i < 4 ∨ i = 10 ∨ 14 < i → τb.1 i = τa.1 i := fun i hi => by rw [← hτb, ss_ne (by omega), ss_ne (by omega), ss_ne (by omega), ss_ne (by omega), ss_ne (by omega), ss_ne (by omega), ss_ne (by omega)]
  have br : τb.2 = τa.2 := by rw [← hτb]; rfl
  have B1 : τc.1 1 = nI 0 := by rw [d4.1 1 (by omega), bf 1 (by omega), c3.1 1 (by omega), ← hτ0, ss_same]
  have B2 : ∀ r, 18 < r → τc.2.1 r = τ.2.1 r := fun r hr => by rw [d4.2.1 r (by omega), br, c3.2.1 r (by omega), ← hτ0, ss_r, sw_ne (by omega), ss_r]
  have B3 : τc.2.2 7 = τ.2.2 7 := by rw [d4.2.2, br, c3.2.2, ← hτ0]; rfl
  -- nothing is run
  have quit : ∀ (x : Nat) (y : Int32), x ≠ 0 → x < 10 → σc.1 21 = nI x → σc.1 22 = y → f_X8_read_143 F τc v w = some (nI x, ss τc 10 y) → ∃ r σ' τ', f_X7_read F σ = some (r, σ') ∧ f_X8_read F τ = some (r, τ') ∧ Inv σ' τ' ex β := by
    intro x y hx hx2 h21 h22 hq
    have nx : ¬ nI x = (0 : Int32) := by
      show ¬ nI x = nI 0
      rw [n_eq (by omega) (by omega)]; exact hx
    have hd' : f_X7_read F σ = some (nI x, ss σc 2 y) := by
      have e21 : (ss σc 2 y).1 21 = nI x := by rw [ss_ne (by omega)]; exact h21
      rw [hd, h22, bnd_i, e21, if_neg nx]
    refine ⟨nI x, _, _, hd', by rw [hm]; exact hq, inv_f I0 (fun i hi => ?_) (fun r hr => ?_) ?_ ?_ ?_ (fun r hr => ?_) ?_⟩
    · rw [ss_ne (by omega)]; exact A1 i (by omega) (by omega)
    · rw [ss_r]; exact A2 r hr
    · rw [ss_ne (by omega)]; exact A3
    · rw [ss_ne (by omega)]; exact B1
    · rw [ss_same, ss_same]
    · rw [ss_r]; exact B2 r hr
    · exact B3
  have z0 : nI 0 ≤ (0 : Int32) := by decide
  have zn : ∀ x, x ≠ 0 → x < 10 → ¬ nI x ≤ (0 : Int32) := fun x h1 h2 => by
    show ¬ nI x ≤ nI 0
    rw [n_le (by omega) (by omega)]; omega
  rcases d5 with ⟨x, k, hx, h21, h22, h6, h7⟩ | ⟨k, h21, h22, h6, h8, h9⟩ | ⟨P, W, a0, T, c, h21, h22, h23, h24, h25, hv, hw', hP, hW, h6, h8, D2, G, k29, dT0, nwr⟩
  · refine quit x (nI (pl k)) (by omega) (by omega) h21 h22 ?_
    have e6 : (ss τc 10 (nI (pl k))).1 6 = nI x := by rw [ss_ne (by omega)]; exact h6
    unfold f_X8_read_143 f_X8_read_173
    rw [h6, if_neg (zn x (by omega) (by omega)), h7, bnd_i, e6, if_neg (zn x (by omega) (by omega))]
  · refine quit 5 (nI (pl k)) (by omega) (by omega) h21 h22 ?_
    have e6 : (ss τc 10 (nI (pl k))).1 6 = nI 0 := by rw [ss_ne (by omega)]; exact h6
    have e8 : (ss τc 10 (nI (pl k))).1 8 = nI 5 := by rw [ss_ne (by omega)]; exact h8
    unfold f_X8_read_143 f_X8_read_173
    rw [h6, if_pos z0, h8, if_neg (zn 5 (by omega) (by omega)), h9, bnd_i, e6, if_pos z0, e8, if_neg (zn 5 (by omega) (by omega))]
  · obtain ⟨⟨gM, g6, g4, g5, g11, g12, g13, gc⟩, ⟨ga1, ga2, ga3⟩, -, -, gP, gd, gx⟩ := G
    -- the desk
    generalize hσ1 : ss σc 2 m1 = σ1
    generalize hσ2 : ss (ss (ss (ss (bgD σ1 P W) 0 (nI 0)) 3 (nI 0)) 26 (nI a0)) 27 (nI 0) = σ2
    have fB := Fr.bgD (σ := σ1) (p := P) (w := W)
    have hdesk : f_X7_read F σ = cal (f_X7_perform_23 F F σ2 0 0) (fun t8 => some (0, t8)) := by
      have e21 : σ1.1 21 = (0 : Int32) := by rw [← hσ1, ss_ne (by omega)]; exact h21
      have e23 : σ1.1 23 = nI P := by rw [← hσ1, ss_ne (by omega)]; exact h23
      have e24 : σ1.1 24 = nI W := by rw [← hσ1, ss_ne (by omega)]; exact h24
      have e25 : (ss (ss (bgD σ1 P W) 0 0) 3 0).1 25 = nI a0 := by rw [ss_ne (by omega), ss_ne (by omega), fB.1 25 (by omega), ← hσ1, ss_ne (by omega)]; exact h25
      have bg := d_beginS (F := F) (by omega) (σ := σ1) P W
      have hpf : f_X7_perform F (ss (bgD σ1 P W) 0 0) = f_X7_perform_23 F F σ2 0 0 := by
        have hrw : f_X4_rewind F (ss (ss (bgD σ1 P W) 0 0) 3 0) (nI a0) = some σ2 := by
          unfold f_X4_rewind
          rw [bnd_i, bnd_i]
          have : ss (ss (ss (ss (bgD σ1 P W) 0 0) 3 0) 26 (nI a0)) 27 0 = σ2 := hσ2
          rw [this]
        unfold f_X7_perform
        rw [bnd_i, e25, cal_w hrw]
      rw [hd, h22, hσ1, bnd_i, e21, if_pos rfl, e23, e24, cal_w bg, bnd_i, hpf]
    -- the model
    generalize hτ1 : ss τc 10 m1 = τ1
    generalize hτ2 : sr (sr (sr (sw τ1 19 (bgN (nw τ1) P W)) 22 0 (nI 0)) 22 1 (nI 0)) 22 2 (nI 0) = τ2
    have hmod : f_X8_read F τ = cal (f_X8_runs_6 F F τ2 0 0 0) (fun t2 => some (0, t2)) := by
      have e6 : τ1.1 6 = nI 0 := by rw [← hτ1, ss_ne (by omega)]; exact h6
      have e8 : τ1.1 8 = nI 0 := by rw [← hτ1, ss_ne (by omega)]; exact h8
      have bg := t_begins (F := F) (by omega) (τ := τ1) P W
      obtain ⟨m0, hm0⟩ : ∃ m0, F = m0 + 4 := ⟨F - 4, by omega⟩
      have h208 : ∀ s : St, f_X8_read_208 F (m0 + 4) s 0 = cal (f_X8_runs F (sr (sr (sr s 22 0 (nI 0)) 22 1 (nI 0)) 22 2 (nI 0))) (fun t2 => some (0, t2)) := by
        intro s
        have nb : vp_nar .boolean (0 : Int32) = nI 0 := narB0
        show f_X8_read_208 F (m0 + 3 + 1) s (nI 0) = _
        have c0 : ¬ (3 : Int32) ≤ nI 0 := by decide
        have c1 : ¬ (3 : Int32) ≤ nI 1 := by decide
        have c2 : ¬ (3 : Int32) ≤ nI 2 := by decide
        have c3 : (3 : Int32) ≤ nI 3 := by decide
        have p1 : nI 0 + (1 : Int32) = nI 1 := by decide
        have p2 : nI 1 + (1 : Int32) = nI 2 := by decide
        have p3 : nI 2 + (1 : Int32) = nI 3 := by decide
        have i0 : inb (nI 0) 3 = true := inb_ok (by omega) (by omega)
        have i1 : inb (nI 1) 3 = true := inb_ok (by omega) (by omega)
        have i2 : inb (nI 2) 3 = true := inb_ok (by omega) (by omega)
        rw [f_X8_read_208, if_neg c0, if_pos i0, bnd_i, bnd_i, p1, f_X8_read_208, if_neg c1, if_pos i1, bnd_i, bnd_i, p2, f_X8_read_208, if_neg c2, if_pos i2, bnd_i, bnd_i, p3, f_X8_read_208, if_pos c3, nb, n_cl (a := 0) (by omega), n_cl (a := 1) (by omega), n_cl (a := 2) (by omega)]
      have h208' := h208 (sw τ1 19 (bgN (nw τ1) P W))
      rw [hτ2, ← hm0] at h208'
      have h173 : f_X8_read_173 F τc (nI P) (nI W) (-1 : Int32) = f_X8_read_208 F F (sw τ1 19 (bgN (nw τ1) P W)) 0 := by
        unfold f_X8_read_173
        have : ss τc 10 (-1 : Int32) = τ1 := hτ1
        rw [bnd_i, this, e6, if_pos z0, e8, if_pos z0, cal_w bg]
      rw [hm, hv, hw']
      unfold f_X8_read_143
      rw [h6, if_pos z0, h8, if_pos z0, h173, h208']
      rfl
    -- the run
    have hT2 : T ≤ 200 := by omega
    have t2f : τ2.1 = τ1.1 := by rw [← hτ2]; rfl
    have t2r : ∀ r, r ≠ 19 → r ≠ 22 → τ2.2.1 r = τ1.2.1 r := fun r q1 q2 => by rw [← hτ2, sr_ne q2, sr_ne q2, sr_ne q2, sw_ne q1]
    have t2n : nw τ2 = bgN (nw τ1) P W := by
      show τ2.2.1 19 = _
      rw [← hτ2, sr_ne (by omega), sr_ne (by omega), sr_ne (by omega), sw_at]
    have PM0 : PM F kd vl (psF F kd vl a0) (dpF kd (psF F kd vl a0)) T c τc := by
      refine ⟨g11, hT2, gP, fun d h1 h2 => ?_, gx, fun k h1 h2 => ?_⟩
      · rcases gd d h1 h2 with z | z
        · cases z
        · exact z
      · have mono : ∀ j, k + j ≤ T → psF F kd vl a0 k ≤ psF F kd vl a0 (k + j) := by
          intro j
          induction j with
          | zero => intro _; exact Nat.le_refl _
          | succ j ih =>
            intro hj
            have q1 := ih (by omega)
            have q2 := (gP (k + j) (by omega)).2.2.1.1
            show _ ≤ psF F kd vl a0 (k + j + 1)
            omega
        have q1 := mono (T - k - 1 + 1) (by omega)
        have q2 := (gP k h1).2.2.1.1
        have q3 : psF F kd vl a0 k < psF F kd vl a0 T := by
          have mono1 : ∀ j, k + 1 + j ≤ T → psF F kd vl a0 (k + 1) ≤ psF F kd vl a0 (k + 1 + j) := by
            intro j
            induction j with
            | zero => intro _; exact Nat.le_refl _
            | succ j ih =>
              intro hj
              have q1 := ih (by omega)
              have q2 := (gP (k + 1 + j) (by omega)).2.2.1.1
              show _ ≤ psF F kd vl a0 (k + 1 + j + 1)
              omega
          have q4 := mono1 (T - (k + 1)) (by omega)
          rw [show k + 1 + (T - (k + 1)) = T by omega] at q4
          omega
        have := of_decide_eq_false (nwr _ q3)
        omega
    have PM2 : PM F kd vl (psF F kd vl a0) (dpF kd (psF F kd vl a0)) T c τ2 := by
      refine PM0.keep ?_ (fun r q1 q2 => ?_)
      · rw [t2f, ← hτ1, ss_ne (by omega)]
      · rw [t2r r (by omega) (by omega), ← hτ1, ss_r]
    have Ev : EnvP F kd vl pl e (psF F kd vl a0) (dpF kd (psF F kd vl a0)) T := ⟨E, by omega, fun k => rfl, ga1, ga2, k29, dT0⟩
    have f2o : ∀ i, i ≠ 0 → i ≠ 3 → i ≠ 26 → i ≠ 27 → σ2.1 i = (bgD σ1 P W).1 i := fun i q0 q3 q6 q7 => by rw [← hσ2, ss_ne q7, ss_ne q6, ss_ne q3, ss_ne q0]
    have r2o : σ2.2 = (bgD σ1 P W).2 := by rw [← hσ2]; rfl
    have R0 : RS F kd vl pl e (psF F kd vl a0) (dpF kd (psF F kd vl a0)) T c 0 0 [] σ2 τ2 := by
      refine ⟨PM2, ⟨?_, fun i hi => ?_⟩, ?_, ?_, rfl, Nat.zero_le _, trivial⟩
      · rw [f2o 19 (by omega) (by omega) (by omega) (by omega), fB.1 19 (by omega), ← hσ1, ss_ne (by omega)]; exact D2.1
      · rw [r2o, fB.2.1 26 (by omega), fB.2.1 27 (by omega), fB.2.1 28 (by omega), ← hσ1, ss_r]; exact D2.2 i hi
      · rw [← hσ2, ss_ne (by omega), ss_same]; rfl
      · rw [← hσ2, ss_same]; rfl
    have C2 : Core σ2 τ2 := by
      refine ⟨by rw [t2n]; exact NN_bg hP.1 hP.2 hW.1 hW.2, ?_⟩
      rw [t2n]
      refine JJ_same (σ := bgD σ1 P W) (JJ_bg hP.1 hP.2 hW.1 hW.2 (fun i hi => ?_) (fun i hi => ?_)) (fun i q1 q2 => f2o i (by omega) (by omega) (by omega) (by omega)) (fun r q1 q2 => by rw [r2o])
      · obtain ⟨-, ⟨-, -, as, -⟩, -⟩ := C.2
        rw [← hσ1, ss_r, A2 15 (by omega)]; exact as i hi
      · obtain ⟨-, ⟨-, -, -, aq⟩, -⟩ := C.2
        rw [← hσ1, ss_r, A2 18 (by omega)]; exact aq i hi
    have n6 : nw τ2 6 = nI 0 := by rw [t2n]; exact bgN_0 (by omega) (by omega) (by omega) (by omega) (by omega)
    obtain ⟨σ', τ', p1, p2, p3, p4, p5, p6⟩ := perf Ev (by omega) (by omega) hS 300 0 0 [] σ2 τ2 0 F F (by omega) (by omega) hFS R0 C2 (by rw [← hσ2, ss_ne (by omega), ss_ne (by omega), ss_same]) n6
    have p1' : f_X7_perform_23 F F σ2 0 0 = some σ' := p1
    have p2' : f_X8_runs_6 F F τ2 0 0 0 = some τ' := p2
    refine ⟨0, σ', τ', by rw [hdesk, cal_w p1'], by rw [hmod, cal_w p2'], p3, ?_, ⟨0, by omega, ?_, ?_, fun i hi => by omega⟩, ?_, p4, ⟨fun _ => false, ?_, fun s hs => ?_, fun s hs q => by cases q⟩, fun i hi => ?_⟩
    · unfold SB
      rw [p5 32 (by omega), p5 34 (by omega), f2o 32 (by omega) (by omega) (by omega) (by omega), f2o 34 (by omega) (by omega) (by omega) (by omega), fB.1 32 (by omega), fB.1 34 (by omega), ← hσ1, ss_ne (by omega), ss_ne (by omega), A1 32 (by omega) (by omega), A1 34 (by omega) (by omega)]
      exact sb
    · rw [p5 1 (by omega), f2o 1 (by omega) (by omega) (by omega) (by omega), fB.1 1 (by omega), ← hσ1, ss_ne (by omega)]; exact A3
    · rw [p6.1 1 (by omega), t2f, ← hτ1, ss_ne (by omega)]; exact B1
    · rw [p5 2 (by omega), f2o 2 (by omega) (by omega) (by omega) (by omega), fB.1 2 (by omega), ← hσ1, ss_same, p6.1 10 (by omega), t2f, ← hτ1, ss_same]
    · rw [p5 0 (by omega), ← hσ2, ss_ne (by omega), ss_ne (by omega), ss_ne (by omega), ss_same]
      decide
    · rw [p6.2.1 22 (by omega), ← hτ2, sr_same, sr_same, sr_same]
      have h3 : s = 0 ∨ s = 1 ∨ s = 2 := by omega
      rcases h3 with z | z | z <;> subst z
      · rw [pk_un (by omega), pk_un (by omega), pk_us]; rfl
      · rw [pk_un (by omega), pk_us]; rfl
      · rw [pk_us]; rfl
    · rw [p6.2.2, ← hτ2]
      show τ1.2.2 7 i = _
      rw [← hτ1, ss_l, B3]; exact ks i hi
theorem read_all : RD 100000000000000 := rd_all (S := 804 * 200000000 + 1) (by decide) (Nat.le_refl _) (by decide)
