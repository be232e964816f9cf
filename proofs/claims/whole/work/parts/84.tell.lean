/-! PURE: one tell, on both sides -/
theorem op_if {σ τ : St} {A B : Option (Int32 × St)} (h : Op σ τ A B) : Op σ τ (cal2 A (fun r t => if r = 0 then (some (0, t)) else (some (1, t)))) (cal2 B (fun r t => if r = 0 then (some (0, t)) else (some (1, t)))) := by
  obtain ⟨r, σ', τ', h1, h2, h3⟩ := h
  rw [cal2_w h1, cal2_w h2]
  by_cases q : r = 0
  · rw [if_pos q, if_pos q]; exact ⟨_, _, _, rfl, rfl, h3⟩
  · rw [if_neg q, if_neg q]; exact ⟨_, _, _, rfl, rfl, h3⟩
theorem op_id {σ τ : St} {A B : Option (Int32 × St)} (h : Op σ τ A B) : Op σ τ (cal2 A (fun r t => some (r, t))) (cal2 B (fun r t => some (r, t))) := by
  obtain ⟨r, σ', τ', h1, h2, h3⟩ := h
  rw [cal2_w h1, cal2_w h2]
  exact ⟨_, _, _, rfl, rfl, h3⟩
theorem op_tell {F : Nat} (hF : 300 < F) {σ τ : St} (C : Core σ τ) {q : Nat} (hq : q < 10) (a b c : Int32) : Op σ τ (f_X7_tell F σ (nI (q + 2)) a b c) (f_X8_tellDone F τ (nI q) a b c) := by
  unfold f_X7_tell f_X8_tellDone
  have h : q = 0 ∨ q = 1 ∨ q = 2 ∨ q = 3 ∨ q = 4 ∨ q = 5 ∨ q = 6 ∨ q = 7 ∨ q = 8 ∨ q = 9 := by omega
  rcases h with z | z | z | z | z | z | z | z | z | z <;> subst z
  · exact op_id (op_write C a b)
  · exact op_id (op_add C a b)
  · exact op_id (op_mark C a)
  · exact op_id (op_fill (by omega) C)
  · exact op_id (op_copy hF C _)
  · exact op_id (op_copy hF C a)
  · exact op_if (op_take hF C a b)
  · exact op_if (op_close C a)
  · exact op_id (op_restore hF C a b c)
  · exact op_if (op_lose C a b)
section
variable {F : Nat} {kd vl pl : Nat → Nat} {e : Nat} {ps dp : Nat → Nat} {T c : Nat}
def u0 (D : Nat) (g : Nat → Int32) : Int32 := if D = 0 then nI 0 else g (D - 1)
def u1 (D : Nat) (g : Nat → Int32) : Int32 := if D ≤ 1 then nI 0 else g (D - 2)
def Q26 (σ σ' : St) : Prop := (∀ i, i ≠ 26 → σ'.1 i = σ.1 i) ∧ σ'.2 = σ.2
noncomputable def argK (F q j : Nat) (K : St → Int32 → Option (Int32 × St)) (σ : St) : Option (Int32 × St) := if (argT q) ≤ nI j then K σ (nI 0) else cal2 (f_X4_sumN F 8 σ (nI 0)) (fun r t => K t r)
theorem k93 {σ : St} {a q : Nat} (hq : q < 10) (h26 : σ.1 26 = nI a) (y : Int32) : f_X4_reckon_93 F σ (nI q) y (nI 1) = argK F q 0 (fun t r => f_X4_reckon_122 F t (nI q) r) (ss (sr σ 32 1 y) 26 (nI (a + 1))) := by
  have i1 : inb (nI 1) 6 = true := inb_ok (by omega) (by omega)
  have iq : inb (nI q) 10 = true := inb_ok (by omega) (by omega)
  unfold f_X4_reckon_93
  rw [if_pos i1, bnd_i, bnd_i, if_pos iq, n_cl (a := 1) (by omega), n_cl (a := q) (by omega), sr_f, h26]
  have eA : nI a + (1 : Int32) = nI (a + 1) := n_add a 1
  rw [eA]
  rfl
theorem k56 {σ : St} {q D : Nat} (h27 : σ.1 27 = nI D) (hD : D ≤ 3) (y : Int32) : f_X4_reckon_56 F σ (nI q) y (nI 0) = f_X4_reckon_93 F (sr σ 32 0 y) (nI q) (u1 D (σ.2.1 30)) (nI 1) := by
  have i0 : inb (nI 0) 6 = true := inb_ok (by omega) (by omega)
  unfold f_X4_reckon_56 f_X4_reckon_92 u1
  rw [if_pos i0, bnd_i, n_cl (a := 0) (by omega), sr_f, h27]
  by_cases z : D ≤ 1
  · have : nI D ≤ (1 : Int32) := by
      show nI D ≤ nI 1
      rw [n_le (by omega) (by omega)]; exact z
    rw [if_pos this, if_pos z]
    rfl
  · have c1 : ¬ nI D ≤ (1 : Int32) := by
      show ¬ nI D ≤ nI 1
      rw [n_le (by omega) (by omega)]; exact z
    have c2 : ¬ (3 : Int32) < nI D := by
      show ¬ nI 3 < nI D
      rw [n_lt (by omega) (by omega)]; omega
    have c3 : nI D - (2 : Int32) = nI (D - 2) := by
      show nI D - nI 2 = _
      rw [pk_sub (by omega)]
    have i2 : inb (nI (D - 2)) 3 = true := inb_ok (by omega) (by omega)
    rw [if_neg c1, if_neg c2, if_neg z, c3, if_pos i2, n_cl (a := D - 2) (by omega), sr_ne (by omega)]
    rfl
theorem d_rk {σ : St} {a q D : Nat} (h28 : σ.1 28 = nI (q + 2)) (hq : q < 10) (h26 : σ.1 26 = nI a) (h27 : σ.1 27 = nI D) (hD : D ≤ 3) : f_X4_reckon F σ = argK F q 0 (fun t r => f_X4_reckon_122 F t (nI q) r) (ss (sr (sr σ 32 0 (u0 D (σ.2.1 30))) 32 1 (u1 D (σ.2.1 30))) 26 (nI (a + 1))) := by
  have sA : nI (q + 2) - (2 : Int32) = nI q := by
    show nI (q + 2) - nI 2 = _
    rw [pk_sub (by omega)]; rfl
  have c0 : ¬ nI q < (0 : Int32) := by
    show ¬ nI q < nI 0
    rw [n_lt (by omega) (by omega)]; omega
  have c1 : nI q < (10 : Int32) := by
    show nI q < nI 10
    rw [n_lt (by omega) (by omega)]; omega
  unfold f_X4_reckon
  rw [h28, sA, bnd_i, if_neg c0, if_pos c1, h27]
  by_cases z : D = 0
  · subst z
    have : nI 0 ≤ (0 : Int32) := by decide
    rw [if_pos this]
    unfold f_X4_reckon_55
    have := k56 (F := F) (q := q) h27 hD (nI 0)
    refine Eq.trans this ?_
    rw [k93 hq (by rw [sr_f]; exact h26)]
    rfl
  · have d0 : ¬ nI D ≤ (0 : Int32) := by
      show ¬ nI D ≤ nI 0
      rw [n_le (by omega) (by omega)]; omega
    have d1 : ¬ (3 : Int32) < nI D := by
      show ¬ nI 3 < nI D
      rw [n_lt (by omega) (by omega)]; omega
    have d2 : nI D - (1 : Int32) = nI (D - 1) := by
      show nI D - nI 1 = _
      rw [pk_sub (by omega)]
    have i2 : inb (nI (D - 1)) 3 = true := inb_ok (by omega) (by omega)
    rw [if_neg d0, if_neg d1, d2, if_pos i2, n_cl (a := D - 1) (by omega)]
    have := k56 (F := F) (q := q) h27 hD (σ.2.1 30 (D - 1))
    refine Eq.trans this ?_
    rw [k93 hq (by rw [sr_f]; exact h26)]
    unfold u0
    rw [if_neg z]
/-- what the j-th term of a tell comes to, on both sides -/
def ArgV (F : Nat) (kd vl pl : Nat → Nat) (e a q k : Nat) (τ : St) (vr : Nat → Int32) (j : Nat) (v : Int32) : Prop := (agN q ≤ j → v = nI 0) ∧ (j < agN q → ∀ σ, DV kd vl pl e vr σ → σ.1 26 = nI (qF F kd vl a j) → f_X4_sumN F 8 σ (nI 0) = some (v, ss σ 26 (nI (qF F kd vl a (j + 1))))) ∧ ∀ τ', (∀ r, 8 ≤ r → r ≤ 14 → τ'.2.1 r = τ.2.1 r) → (∀ i, i < 6 → τ'.2.1 16 i = vr i) → ∃ f, f_X8_termTold F τ' (nI k) (nI j) = some (v, sw τ' 17 f)
theorem qF_le (hF : 1000 < F) (E : TkE kd vl pl e) {a : Nat} (h1 : a + 1 ≤ e) (h2 : a + 1 ≤ 400) : ∀ j, qF F kd vl a j ≤ e ∧ qF F kd vl a j ≤ 400
  | 0 => ⟨h1, h2⟩
  | j + 1 => by
    obtain ⟨x1, x2⟩ := qF_le hF E h1 h2 j
    exact ((exE_P hF E x1 x2).1).2
theorem argV (hF : 1000 < F) (E : TkE kd vl pl e) {a q k : Nat} (h1 : a + 1 ≤ e) (h2 : a + 1 ≤ 400) (hq : q < 10) (hk : k < 200) (hc : c ≤ 400) {τ : St} (h8 : τ.2.1 8 k = nI q) (X : EXs F kd vl k c 0 (agN q) (qF F kd vl a) τ) (vr : Nat → Int32) {j : Nat} (hj : j < 3) : ∃ v, ArgV F kd vl pl e a q k τ vr j v := by
  have ag3 := ag_le q hq
  have tt : ∀ τ' : St, τ'.2.1 8 = τ.2.1 8 → f_X8_termTold F τ' (nI k) (nI j) = if agN q ≤ j then some (nI 0, τ') else f_X8_termOf F τ' (τ'.2.1 9 (4 * k + j)) (τ'.2.1 9 (4 * k + j + 1)) := by
    intro τ' e8
    have wt := t_termsOf q hq F τ'
    have e8' : τ'.2.1 8 k = nI q := by rw [e8]; exact h8
    have ik : inb (nI k) 210 = true := inb_ok (by omega) (by omega)
    have m4 : (4 : Int32) * nI k + nI j = nI (4 * k + j) := by
      show nI 4 * nI k + nI j = _
      rw [pk_mul, n_add]
    have m5 : nI (4 * k + j) + (1 : Int32) = nI (4 * k + j + 1) := n_add _ 1
    have i4 : inb (nI (4 * k + j)) 840 = true := inb_ok (by omega) (by omega)
    have i5 : inb (nI (4 * k + j + 1)) 840 = true := inb_ok (by omega) (by omega)
    unfold f_X8_termTold
    rw [if_pos ik, n_cl (a := k) (by omega), e8', cal_w wt]
    by_cases z : agN q ≤ j
    · rw [if_pos (by rw [n_le (by omega) (by omega)]; exact z), if_pos z]
      rfl
    · rw [if_neg (by rw [n_le (by omega) (by omega)]; exact z), if_neg z, m4, m5, if_pos i4, if_pos i5, n_cl (a := 4 * k + j) (by omega), n_cl (a := 4 * k + j + 1) (by omega)]
      cases f_X8_termOf F τ' (τ'.2.1 9 (4 * k + j)) (τ'.2.1 9 (4 * k + j + 1)) with
      | none => rfl
      | some x => rfl
  by_cases z : agN q ≤ j
  · refine ⟨nI 0, fun _ => rfl, fun q => by omega, fun τ' hr hv => ⟨τ'.2.1 17, ?_⟩⟩
    rw [tt τ' (hr 8 (by omega) (by omega)), if_pos z, sw_self]
  · obtain ⟨cd, c1, y1, y2, y3, y4, y5⟩ := X j (Nat.zero_le _) (by omega)
    obtain ⟨x1, x2⟩ := qF_le hF E h1 h2 j
    obtain ⟨v, v1, v2, v3⟩ := d_reckon hF E y1 x1 x2 (by omega) vr
    refine ⟨v, fun q => by omega, fun _ => v3, fun τ' hr hv => ?_⟩
    rw [tt τ' (hr 8 (by omega) (by omega)), if_neg z, hr 9 (by omega) (by omega), y2, y3]
    refine t_termOf hF v1 v2 (by omega) ?_ hv
    rw [hr 13 (by omega) (by omega), hr 14 (by omega) (by omega)]
    exact y5
theorem arg_d {a q k j : Nat} {τ σ : St} {vr : Nat → Int32} {v : Int32} (hq : q < 10) (hj : j < 3) (V : ArgV F kd vl pl e a q k τ vr j v) (D : DV kd vl pl e vr σ) (h26 : σ.1 26 = nI (qF F kd vl a (min j (agN q)))) (K : St → Int32 → Option (Int32 × St)) : ∃ σ', argK F q j K σ = K σ' v ∧ Q26 σ σ' ∧ σ'.1 26 = nI (qF F kd vl a (min (j + 1) (agN q))) := by
  have ag3 := ag_le q hq
  unfold argK
  rw [ag_T q hq]
  by_cases z : agN q ≤ j
  · refine ⟨σ, ?_, ⟨fun _ _ => rfl, rfl⟩, ?_⟩
    · rw [if_pos (by rw [n_le (by omega) (by omega)]; exact z), V.1 z]
    · rw [h26, show min j (agN q) = min (j + 1) (agN q) by omega]
  · have := V.2.1 (by omega) σ D (by rw [h26, show min j (agN q) = j by omega])
    refine ⟨ss σ 26 (nI (qF F kd vl a (j + 1))), ?_, ⟨fun i hi => ss_ne (by omega), rfl⟩, ?_⟩
    · rw [if_neg (by rw [n_le (by omega) (by omega)]; exact z), cal2_w this]
    · rw [ss_same, show min (j + 1) (agN q) = j + 1 by omega]
end
