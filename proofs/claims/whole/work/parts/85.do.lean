/-! PURE: the tells, one after another -/
section
variable {F : Nat} {kd vl pl : Nat → Nat} {e : Nat} {ps dp : Nat → Nat} {T c : Nat}
theorem k122 {σ : St} {q : Nat} (hq : q < 10) (v : Int32) : f_X4_reckon_122 F σ (nI q) v = argK F q 1 (fun t r => f_X4_reckon_144 F t (nI q) r) (ss σ 29 v) := by
  have iq : inb (nI q) 10 = true := inb_ok (by omega) (by omega)
  unfold f_X4_reckon_122
  rw [bnd_i, if_pos iq, n_cl (a := q) (by omega)]
  rfl
theorem k144 {σ : St} {q : Nat} (hq : q < 10) (v : Int32) : f_X4_reckon_144 F σ (nI q) v = argK F q 2 (fun t r => bnd (ss t 31 r) (fun t8 => bnd (ss t8 26 ((t8.1 26) + 1)) (fun t9 => some (1, t9)))) (ss σ 30 v) := by
  have iq : inb (nI q) 10 = true := inb_ok (by omega) (by omega)
  unfold f_X4_reckon_144
  rw [bnd_i, if_pos iq, n_cl (a := q) (by omega)]
  rfl
theorem DV.q {σ σ' : St} {vr : Nat → Int32} (D : DV kd vl pl e vr σ) (h : σ'.1 19 = σ.1 19) (h2 : σ'.2 = σ.2) : DV kd vl pl e vr σ' := by
  obtain ⟨⟨a1, a2⟩, a3⟩ := D
  refine ⟨⟨h.trans a1, ?_⟩, ?_⟩
  · rw [h2]; exact a2
  · rw [h2]; exact a3
def vrF (D : Nat) (g k : Nat → Int32) : Nat → Int32 := fun i => if i = 0 then u0 D g else if i = 1 then u1 D g else k i
theorem d_reck {a q D k : Nat} {σ τ : St} (E : TkD kd vl pl e σ) (h28 : σ.1 28 = nI (q + 2)) (hq : q < 10) (h26 : σ.1 26 = nI a) (h27 : σ.1 27 = nI D) (hD : D ≤ 3) {va vb vc : Int32} (Va : ArgV F kd vl pl e a q k τ (vrF D (σ.2.1 30) (σ.2.1 32)) 0 va) (Vb : ArgV F kd vl pl e a q k τ (vrF D (σ.2.1 30) (σ.2.1 32)) 1 vb) (Vc : ArgV F kd vl pl e a q k τ (vrF D (σ.2.1 30) (σ.2.1 32)) 2 vc) : ∃ σ', f_X4_reckon F σ = some (nI 1, σ') ∧ σ'.1 29 = va ∧ σ'.1 30 = vb ∧ σ'.1 31 = vc ∧ σ'.1 26 = nI (qF F kd vl a (agN q) + 1) ∧ (∀ i, i < 26 ∨ i = 27 ∨ i = 28 ∨ 31 < i → σ'.1 i = σ.1 i) ∧ (∀ r, r ≠ 32 → σ'.2.1 r = σ.2.1 r) ∧ σ'.2.2 = σ.2.2 := by
  have ag3 := ag_le q hq
  rw [d_rk h28 hq h26 h27 hD]
  generalize hs2 : ss (sr (sr σ 32 0 (u0 D (σ.2.1 30))) 32 1 (u1 D (σ.2.1 30))) 26 (nI (a + 1)) = s2
  have f2 : ∀ i, i ≠ 26 → s2.1 i = σ.1 i := fun i hi => by rw [← hs2, ss_ne hi]; rfl
  have r2 : ∀ r, r ≠ 32 → s2.2.1 r = σ.2.1 r := fun r hr => by rw [← hs2, ss_r, sr_ne hr, sr_ne hr]
  have l2 : s2.2.2 = σ.2.2 := by rw [← hs2]; rfl
  have D2 : DV kd vl pl e (vrF D (σ.2.1 30) (σ.2.1 32)) s2 := by
    refine ⟨⟨by rw [f2 19 (by omega)]; exact E.1, ?_⟩, ?_⟩
    · rw [r2 26 (by omega), r2 27 (by omega), r2 28 (by omega)]; exact E.2
    · intro i hi
      rw [← hs2, ss_r, sr_same, sr_same]
      unfold vrF
      by_cases z : i = 0
      · rw [if_pos z, z]
        exact (pk_un (by omega)).trans pk_us
      · rw [if_neg z]
        by_cases y : i = 1
        · rw [if_pos y, y]; exact pk_us
        · rw [if_neg y]; exact (pk_un y).trans (pk_un z)
  obtain ⟨s3, x1, x2, x3⟩ := arg_d hq (by omega) Va D2 (by rw [← hs2, ss_same, show min 0 (agN q) = 0 by omega]; rfl) (fun t r => f_X4_reckon_122 F t (nI q) r)
  have D3 : DV kd vl pl e (vrF D (σ.2.1 30) (σ.2.1 32)) (ss s3 29 va) := D2.q (by rw [ss_ne (by omega)]; exact x2.1 19 (by omega)) x2.2
  obtain ⟨s4, y1, y2, y3⟩ := arg_d hq (by omega) Vb D3 (by rw [ss_ne (by omega)]; exact x3) (fun t r => f_X4_reckon_144 F t (nI q) r)
  have D4 : DV kd vl pl e (vrF D (σ.2.1 30) (σ.2.1 32)) (ss s4 30 vb) := D3.q (by rw [ss_ne (by omega)]; exact y2.1 19 (by omega)) y2.2
  obtain ⟨s5, z1, z2, z3⟩ := arg_d hq (by omega) Vc D4 (by rw [ss_ne (by omega)]; exact y3) (fun t r => bnd (ss t 31 r) (fun t8 => bnd (ss t8 26 ((t8.1 26) + 1)) (fun t9 => some (1, t9))))
  have fin : argK F q 0 (fun t r => f_X4_reckon_122 F t (nI q) r) s2 = some (nI 1, ss (ss s5 31 vc) 26 (nI (qF F kd vl a (agN q) + 1))) := by
    rw [x1, k122 hq, y1, k144 hq, z1, bnd_i, bnd_i]
    have h : (ss s5 31 vc).1 26 = nI (qF F kd vl a (agN q)) := by rw [ss_ne (by omega), z3, show min (2 + 1) (agN q) = agN q by omega]
    have eA : nI (qF F kd vl a (agN q)) + (1 : Int32) = nI (qF F kd vl a (agN q) + 1) := n_add _ 1
    rw [h, eA]
    rfl
  refine ⟨_, fin, ?_, ?_, ?_, ss_same, fun i hi => ?_, fun r hr => ?_, ?_⟩
  · rw [ss_ne (by omega), ss_ne (by omega), z2.1 29 (by omega), ss_ne (by omega), y2.1 29 (by omega), ss_same]
  · rw [ss_ne (by omega), ss_ne (by omega), z2.1 30 (by omega), ss_same]
  · rw [ss_ne (by omega), ss_same]
  · rw [ss_ne (by omega), ss_ne (by omega), z2.1 i (by omega), ss_ne (by omega), y2.1 i (by omega), ss_ne (by omega), x2.1 i (by omega), f2 i (by omega)]
  · rw [ss_r, ss_r, z2.2, ss_r, y2.2, ss_r, x2.2]; exact r2 r hr
  · rw [ss_l, ss_l, z2.2, ss_l, y2.2, ss_l, x2.2]; exact l2
/-- the model's tell -/
theorem m163 {k6 : St → Int32 → Int32 → Int32 → Option St} {σ : St} {D : Nat} (hD : D ≤ 3) (x1 x3 x4 y : Int32) : f_X8_runs_163 F k6 σ x1 (nI D) x3 x4 y (nI 0) = f_X8_runs_186 F k6 (sr σ 16 0 y) x1 (nI D) x3 x4 (u1 D (σ.2.1 18)) (nI 1) := by
  have i0 : inb (nI 0) 6 = true := inb_ok (by omega) (by omega)
  unfold f_X8_runs_163 u1
  rw [if_pos i0, bnd_i, n_cl (a := 0) (by omega)]
  by_cases z : D ≤ 1
  · have : nI D ≤ (1 : Int32) := by
      show nI D ≤ nI 1
      rw [n_le (by omega) (by omega)]; exact z
    rw [if_pos this, if_pos z]
    rfl
  · have c1 : ¬ nI D ≤ (1 : Int32) := by
      show ¬ nI D ≤ nI 1
      rw [n_le (by omega) (by omega)]; exact z
    have c3 : nI D - (2 : Int32) = nI (D - 2) := by
      show nI D - nI 2 = _
      rw [pk_sub (by omega)]
    have i2 : inb (nI (D - 2)) 3 = true := inb_ok (by omega) (by omega)
    rw [if_neg c1, if_neg z, c3, if_pos i2, n_cl (a := D - 2) (by omega), sr_ne (by omega)]
    rfl
theorem t_run {n k t D q l a : Nat} {τ : St} {x : Int32} (h11 : τ.1 11 = nI T) (hT : T ≤ 200) (hk : k < T) (ht : τ.2.1 19 6 = nI t) (h3 : t < 300) (hv : τ.2.1 8 k = nI q) (hq : q < 10) (hD : D ≤ 3) (h19 : τ.2.1 19 3 = nI l) (hl : l < 8) {va vb vc : Int32} {vr : Nat → Int32} (v0 : vr 0 = u0 D (τ.2.1 18)) (v1 : vr 1 = u1 D (τ.2.1 18)) (v2 : vr 2 = τ.2.1 19 (20 + 4 * l)) (v3 : vr 3 = τ.2.1 19 3) (v4 : vr 4 = τ.2.1 19 5) (v5 : vr 5 = x) (Va : ArgV F kd vl pl e a q k τ vr 0 va) (Vb : ArgV F kd vl pl e a q k τ vr 1 vb) (Vc : ArgV F kd vl pl e a q k τ vr 2 vc) : ∃ τ', f_X8_runs_6 F (n + 1) τ (nI k) (nI D) x = cal2 (f_X8_tellDone F τ' (nI q) va vb vc) (fun r14 t15 => f_X8_runs_6 F n t15 (nI (k + 1)) (nI D) r14) ∧ τ'.1 = τ.1 ∧ (∀ r, r ≠ 16 → r ≠ 17 → r ≠ 19 → τ'.2.1 r = τ.2.1 r) ∧ τ'.2.1 19 = upd (τ.2.1 19) 6 (nI (t + 1)) ∧ τ'.2.2 = τ.2.2 := by
  have n10 : ¬ nI q = (10 : Int32) := by
    show ¬ nI q = nI 10
    rw [n_eq (by omega) (by omega)]; omega
  have n11 : ¬ nI q = (11 : Int32) := by
    show ¬ nI q = nI 11
    rw [n_eq (by omega) (by omega)]; omega
  have eT : nI t + (1 : Int32) = nI (t + 1) := n_add t 1
  rw [r_top h11 hT hk ht h3 hv (by omega), if_neg n10, if_neg n11, bnd_i, ht, eT]
  generalize hs : sr τ 19 6 (nI (t + 1)) = s
  have s19 : s.2.1 19 = upd (τ.2.1 19) 6 (nI (t + 1)) := by rw [← hs, sr_same]
  have sr' : ∀ r, r ≠ 19 → s.2.1 r = τ.2.1 r := fun r hr => by rw [← hs, sr_ne hr]
  have sf : s.1 = τ.1 := by rw [← hs]; rfl
  have sl : s.2.2 = τ.2.2 := by rw [← hs]; rfl
  have st : (if nI D ≤ 0 then (f_X8_runs_163 F (f_X8_runs_6 F n) s (nI k) (nI D) x (nI q) 0 0) else (if inb (nI D - 1) 3 = true then f_X8_runs_163 F (f_X8_runs_6 F n) s (nI k) (nI D) x (nI q) (s.2.1 18 (nI D - 1).toNatClampNeg) 0 else none)) = f_X8_runs_186 F (f_X8_runs_6 F n) (sr s 16 0 (u0 D (τ.2.1 18))) (nI k) (nI D) x (nI q) (u1 D (τ.2.1 18)) (nI 1) := by
    by_cases z : D = 0
    · subst z
      have : nI 0 ≤ (0 : Int32) := by decide
      rw [if_pos this]
      refine Eq.trans (m163 (F := F) hD (nI k) x (nI q) (nI 0)) ?_
      rw [sr' 18 (by omega)]
      rfl
    · have d0 : ¬ nI D ≤ (0 : Int32) := by
        show ¬ nI D ≤ nI 0
        rw [n_le (by omega) (by omega)]; omega
      have d2 : nI D - (1 : Int32) = nI (D - 1) := by
        show nI D - nI 1 = _
        rw [pk_sub (by omega)]
      have i2 : inb (nI (D - 1)) 3 = true := inb_ok (by omega) (by omega)
      rw [if_neg d0, d2, if_pos i2, n_cl (a := D - 1) (by omega)]
      refine Eq.trans (m163 (F := F) hD (nI k) x (nI q) _) ?_
      rw [sr' 18 (by omega)]
      unfold u0
      rw [if_neg z]
  rw [st]
  have i1 : inb (nI 1) 6 = true := inb_ok (by omega) (by omega)
  unfold f_X8_runs_186
  rw [if_pos i1, bnd_i, n_cl (a := 1) (by omega)]
  generalize hs2 : sr (sr s 16 0 (u0 D (τ.2.1 18))) 16 1 (u1 D (τ.2.1 18)) = s2
  have a19 : s2.2.1 19 = s.2.1 19 := by rw [← hs2, sr_ne (by omega), sr_ne (by omega)]
  have a3 : s2.2.1 19 3 = nI l := by rw [a19, s19]; exact (pk_un (by omega)).trans h19
  rw [a3, cal_w (t_placeOf (F := F) (τ := s2) hl), bnd_i, bnd_i, bnd_i, bnd_i]
  have w2 : nw s2 (20 + 4 * l) = vr 2 := by
    show s2.2.1 19 (20 + 4 * l) = _
    rw [a19, s19, v2]; exact pk_un (by omega)
  rw [w2]
  generalize hs3 : sr s2 16 2 (vr 2) = s3
  have b19 : s3.2.1 19 = s.2.1 19 := by rw [← hs3, sr_ne (by omega)]; exact a19
  have b3 : s3.2.1 19 3 = vr 3 := by rw [b19, s19, v3]; exact pk_un (by omega)
  rw [b3]
  generalize hs4 : sr s3 16 3 (vr 3) = s4
  have c19 : s4.2.1 19 = s.2.1 19 := by rw [← hs4, sr_ne (by omega)]; exact b19
  have c5 : s4.2.1 19 5 = vr 4 := by rw [c19, s19, v4]; exact pk_un (by omega)
  rw [c5]
  generalize hs5 : sr (sr s4 16 4 (vr 4)) 16 5 x = s5
  have k16 : ∀ r, r ≠ 16 → s5.2.1 r = s.2.1 r := fun r hr => by rw [← hs5, sr_ne hr, sr_ne hr, ← hs4, sr_ne hr, ← hs3, sr_ne hr, ← hs2, sr_ne hr, sr_ne hr]
  have kf : s5.1 = τ.1 := by rw [← hs5, sr_f, sr_f, ← hs4, sr_f, ← hs3, sr_f, ← hs2, sr_f, sr_f]; exact sf
  have kl : s5.2.2 = τ.2.2 := by rw [← hs5, sr_l, sr_l, ← hs4, sr_l, ← hs3, sr_l, ← hs2, sr_l, sr_l]; exact sl
  have kv : ∀ i, i < 6 → s5.2.1 16 i = vr i := by
    intro i hi
    have e16 : s5.2.1 16 = upd (upd (upd (upd (upd (upd (s.2.1 16) 0 (u0 D (τ.2.1 18))) 1 (u1 D (τ.2.1 18))) 2 (vr 2)) 3 (vr 3)) 4 (vr 4)) 5 x := by
      rw [← hs5, sr_same, sr_same, ← hs4, sr_same, ← hs3, sr_same, ← hs2, sr_same, sr_same]
    rw [e16]
    have h6 : i = 0 ∨ i = 1 ∨ i = 2 ∨ i = 3 ∨ i = 4 ∨ i = 5 := by omega
    rcases h6 with z | z | z | z | z | z <;> subst z
    · rw [v0, pk_un (by omega), pk_un (by omega), pk_un (by omega), pk_un (by omega), pk_un (by omega), pk_us]
    · rw [v1, pk_un (by omega), pk_un (by omega), pk_un (by omega), pk_un (by omega), pk_us]
    · rw [pk_un (by omega), pk_un (by omega), pk_un (by omega), pk_us]
    · rw [pk_un (by omega), pk_un (by omega), pk_us]
    · rw [pk_un (by omega), pk_us]
    · rw [v5, pk_us]
  have kr : ∀ r, 8 ≤ r → r ≤ 14 → s5.2.1 r = τ.2.1 r := fun r h1 h2 => by rw [k16 r (by omega), sr' r (by omega)]
  obtain ⟨fa, ea⟩ := Va.2.2 s5 kr kv
  obtain ⟨fb, eb⟩ := Vb.2.2 (sw s5 17 fa) (fun r h1 h2 => by rw [sw_ne (by omega)]; exact kr r h1 h2) (fun i hi => by rw [sw_ne (by omega)]; exact kv i hi)
  rw [sw_sw] at eb
  obtain ⟨fc, ec⟩ := Vc.2.2 (sw s5 17 fb) (fun r h1 h2 => by rw [sw_ne (by omega)]; exact kr r h1 h2) (fun i hi => by rw [sw_ne (by omega)]; exact kv i hi)
  rw [sw_sw] at ec
  refine ⟨sw s5 17 fc, ?_, kf, fun r h1 h2 h3 => ?_, ?_, kl⟩
  · have ea' : f_X8_termTold F s5 (nI k) 0 = some (va, sw s5 17 fa) := ea
    have eb' : f_X8_termTold F (sw s5 17 fa) (nI k) 1 = some (vb, sw s5 17 fb) := eb
    have ec' : f_X8_termTold F (sw s5 17 fb) (nI k) 2 = some (vc, sw s5 17 fc) := ec
    rw [cal2_w ea', cal2_w eb', cal2_w ec']
    unfold f_X8_runs_259
    have eA : nI k + (1 : Int32) = nI (k + 1) := n_add k 1
    rw [eA]
    rfl
  · rw [sw_ne h2, k16 r h1, sr' r h3]
  · rw [sw_ne (by omega), k16 19 (by omega), s19]
end
