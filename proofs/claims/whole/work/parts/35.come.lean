/-! PURE: a record comes, on both sides -/
theorem cm_out {N : Nat → Int32} {a b v : Int32} {j : Nat} (h4 : j ≠ 4) (h20 : j ≠ 20 + 4 * (nl N - 1)) (hk : j < ra (nl N - 1) (tp N (nl N - 1) + 1) ∨ ra (nl N - 1) (tp N (nl N - 1) + 1) + 2 < j) (hp : j ≠ 420 + 120 * (nl N - 1) + tp N (nl N - 1) / wd N) : cmN N a b v j = N j := by
  simp only [cmN, Nat.add_sub_cancel]
  unfold ra at hk
  split
  · rw [pk_un hp, pk_un h4, pk_un (by omega), pk_un (by omega), pk_un (by omega), pk_un h20]
  · rw [pk_un h4, pk_un (by omega), pk_un (by omega), pk_un (by omega), pk_un h20]
theorem div120 {p w : Nat} (hp : p ≤ 240) (hw : 2 ≤ w) (hp0 : 1 ≤ p) : (p - 1) / w < 120 := by
  rw [Nat.div_lt_iff_lt_mul (by omega)]
  have : 120 * 2 ≤ 120 * w := Nat.mul_le_mul (Nat.le_refl _) hw
  omega
section
variable {N : Nat → Int32} {a b v : Int32}
/-- there is room for a record -/
abbrev rm (N : Nat → Int32) : Prop := tp N (nl N - 1) + 1 ≤ 240 ∧ md N + 1 ≤ 600
theorem cm_4 (h : NN N) : cmN N a b v 4 = nI (md N + 1) := by
  have hq := Nat.zero_le (tp N (nl N - 1) / wd N)
  simp only [cmN, Nat.add_sub_cancel]
  split
  · rw [pk_un (by omega), pk_us]
  · rw [pk_us]
theorem cm_low (h : NN N) (hr : rm N) {j : Nat} (h4 : j ≠ 4) (h20 : j ≠ 20 + 4 * (nl N - 1)) (hj : j < 420) : cmN N a b v j = N j := by
  have hq := Nat.zero_le (tp N (nl N - 1) / wd N)
  refine cm_out h4 h20 (Or.inl ?_) (by omega)
  unfold ra; omega
theorem cm_tip (h : NN N) (hr : rm N) : cmN N a b v (20 + 4 * (nl N - 1)) = nI (tp N (nl N - 1) + 1) := by
  have := (NNb h).2.2.2.2.2.1
  have hq := Nat.zero_le (tp N (nl N - 1) / wd N)
  simp only [cmN, Nat.add_sub_cancel]
  split
  · rw [pk_un (by omega), pk_un (by omega), pk_un (by omega), pk_un (by omega), pk_un (by omega), pk_us]
  · rw [pk_un (by omega), pk_un (by omega), pk_un (by omega), pk_un (by omega), pk_us]
theorem cm_rec (h : NN N) (hr : rm N) : cmN N a b v (ra (nl N - 1) (tp N (nl N - 1) + 1)) = a ∧ cmN N a b v (ra (nl N - 1) (tp N (nl N - 1) + 1) + 1) = b ∧ cmN N a b v (ra (nl N - 1) (tp N (nl N - 1) + 1) + 2) = v := by
  obtain ⟨b1, b2, b3, b4, b5, b6, b7, b8⟩ := NNb h
  have hq := Nat.zero_le (tp N (nl N - 1) / wd N)
  have := div120 (p := tp N (nl N - 1) + 1) (w := wd N) (by omega) b3 (by omega)
  rw [Nat.add_sub_cancel] at this
  unfold ra
  simp only [cmN, Nat.add_sub_cancel]
  split
  · refine ⟨?_, ?_, ?_⟩
    · rw [pk_un (by omega), pk_un (by omega), pk_un (by omega), pk_un (by omega), pk_us]
    · rw [pk_un (by omega), pk_un (by omega), pk_un (by omega), pk_us]
    · rw [pk_un (by omega), pk_un (by omega), pk_us]
  · refine ⟨?_, ?_, ?_⟩
    · rw [pk_un (by omega), pk_un (by omega), pk_un (by omega), pk_us]
    · rw [pk_un (by omega), pk_un (by omega), pk_us]
    · rw [pk_un (by omega), pk_us]
theorem cm_con (h : NN N) (hr : rm N) {l k : Nat} (hl : l < 8) (hk : k < 120) : cmN N a b v (420 + 120 * l + k) = if l = nl N - 1 ∧ k = tp N (nl N - 1) / wd N ∧ (tp N (nl N - 1) + 1) % wd N = 0 then nI 1 else N (420 + 120 * l + k) := by
  obtain ⟨b1, b2, b3, b4, b5, b6, b7, b8⟩ := NNb h
  have hq := Nat.zero_le (tp N (nl N - 1) / wd N)
  have := div120 (p := tp N (nl N - 1) + 1) (w := wd N) (by omega) b3 (by omega)
  rw [Nat.add_sub_cancel] at this
  simp only [cmN, Nat.add_sub_cancel]
  split
  next c =>
    by_cases d : l = nl N - 1 ∧ k = tp N (nl N - 1) / wd N
    · rw [if_pos ⟨d.1, d.2, c⟩, d.1, d.2, pk_us]
    · rw [if_neg (fun e => d ⟨e.1, e.2.1⟩), pk_un (by omega), pk_un (by omega), pk_un (by omega), pk_un (by omega), pk_un (by omega), pk_un (by omega)]
  next c =>
    rw [if_neg (fun e => c e.2.2), pk_un (by omega), pk_un (by omega), pk_un (by omega), pk_un (by omega), pk_un (by omega)]
theorem cm_recN (h : NN N) (hr : rm N) {l p i : Nat} (hl : l < 8) (hp : p ≤ 240) (hi : i < 3) (hn : ¬ (l = nl N - 1 ∧ p = tp N (nl N - 1) + 1)) : cmN N a b v (ra l p + i) = N (ra l p + i) := by
  obtain ⟨b1, b2, b3, b4, b5, b6, b7, b8⟩ := NNb h
  have hq := Nat.zero_le (tp N (nl N - 1) / wd N)
  have := div120 (p := tp N (nl N - 1) + 1) (w := wd N) (by omega) b3 (by omega)
  rw [Nat.add_sub_cancel] at this
  unfold ra
  refine cm_out (by omega) (by omega) ?_ (by omega)
  unfold ra
  omega
theorem cm_pg (h : NN N) (hr : rm N) : pg (cmN N a b v) = pg N := by unfold pg; rw [cm_low h hr (by omega) (by omega) (by omega)]
theorem cm_wd (h : NN N) (hr : rm N) : wd (cmN N a b v) = wd N := by unfold wd; rw [cm_low h hr (by omega) (by omega) (by omega)]
theorem cm_nl (h : NN N) (hr : rm N) : nl (cmN N a b v) = nl N := by unfold nl; rw [cm_low h hr (by omega) (by omega) (by omega)]
theorem cm_nc (h : NN N) (hr : rm N) : nc (cmN N a b v) = nc N := by unfold nc; rw [cm_low h hr (by omega) (by omega) (by omega)]
theorem cm_md (h : NN N) (hr : rm N) : md (cmN N a b v) = md N + 1 := by
  have h6 := hr.2
  show (cmN N a b v 4).toNatClampNeg = md N + 1
  rw [cm_4 h, n_cl (by omega)]
theorem cm_tp (h : NN N) (hr : rm N) (l : Nat) (hl : l < 8) : tp (cmN N a b v) l = if l = nl N - 1 then tp N l + 1 else tp N l := by
  by_cases c : l = nl N - 1
  · rw [if_pos c]; unfold tp; rw [c, cm_tip h hr, n_cl (by omega)]; rfl
  · rw [if_neg c]; unfold tp; rw [cm_low h hr (by omega) (by omega) (by omega)]
theorem cm_pr (h : NN N) (hr : rm N) (l : Nat) (hl : l < 8) : pr (cmN N a b v) l = pr N l := by unfold pr; rw [cm_low h hr (by omega) (by omega) (by omega)]
theorem cm_fk (h : NN N) (hr : rm N) (l : Nat) (hl : l < 8) : fk (cmN N a b v) l = fk N l := by unfold fk; rw [cm_low h hr (by omega) (by omega) (by omega)]
theorem cm_kp (h : NN N) (hr : rm N) {l k : Nat} (hl : l < 8) (hk : k < 120) : kp (cmN N a b v) l k = if l = nl N - 1 ∧ k = tp N (nl N - 1) / wd N ∧ (tp N (nl N - 1) + 1) % wd N = 0 then 1 else kp N l k := by
  unfold kp; rw [cm_con h hr hl hk]
  split
  · rw [n_cl (by omega)]
  · rfl
theorem cm_sm (h : NN N) (hr : rm N) : ∀ l, l ≤ nl N - 1 → sm (cmN N a b v) l = sm N l := by
  have b6 := (NNb h).2.2.2.2.2.1
  intro l
  induction l with
  | zero => intro _; rfl
  | succ l ih =>
    intro hl
    simp only [sm]
    rw [ih (by omega), cm_tp h hr l (by omega), cm_fk h hr l (by omega), if_neg (by omega)]
theorem cm_smT (h : NN N) (hr : rm N) : sm (cmN N a b v) (nl N) = sm N (nl N) + 1 := by
  obtain ⟨b1, b2, b3, b4, b5, b6, b7, b8⟩ := NNb h
  have hf := fk_le h.2.1 (l := nl N - 1) (by omega)
  obtain ⟨l, hl⟩ : ∃ l, nl N = l + 1 := ⟨nl N - 1, by omega⟩
  have h2 := cm_sm (a := a) (b := b) (v := v) h hr l (by omega)
  have h3 := cm_tp (a := a) (b := b) (v := v) h hr l (by omega)
  have h4 := cm_fk (a := a) (b := b) (v := v) h hr l (by omega)
  rw [hl] at hf ⊢
  rw [hl] at h3
  simp only [Nat.add_sub_cancel, if_true] at h3 hf
  simp only [sm]
  omega
end
theorem NN_cm {N : Nat → Int32} (h : NN N) (hr : rm N) {s : Nat} (hs : s < 4) {b v : Int32} (hb : s < 2 → ∃ g, g < pg N ∧ b = nI g) : NN (cmN N (nI s) b v) := by
  obtain ⟨b1, b2, b3, b4, b5, b6, b7, b8⟩ := NNb h
  obtain ⟨h1, h2, h3, h4, h5⟩ := h
  have h : NN N := ⟨h1, h2, h3, h4, h5⟩
  have hft : fk N (nl N - 1) ≤ tp N (nl N - 1) := fk_le h2 (by omega)
  refine ⟨?_, ?_, ?_, ?_, ?_⟩
  · obtain ⟨⟨a1, -⟩, ⟨a2, -⟩, ⟨a3, -⟩, a4, ⟨a5, -⟩, ⟨a6, -⟩, t, ht, a7⟩ := h1
    unfold N1
    rw [cm_pg h hr, cm_wd h hr, cm_nl h hr, cm_md h hr, cm_nc h hr]
    refine ⟨⟨?_, b1, b2⟩, ⟨?_, b3, b4⟩, ⟨?_, b5, b6⟩, ?_, ⟨cm_4 h, by omega⟩, ⟨?_, b8⟩, t, ht, ?_⟩
    · rw [cm_low h hr (by omega) (by omega) (by omega), a1]
    · rw [cm_low h hr (by omega) (by omega) (by omega), a2]
    · rw [cm_low h hr (by omega) (by omega) (by omega), a3]
    · rw [cm_low h hr (by omega) (by omega) (by omega), a4]
    · rw [cm_low h hr (by omega) (by omega) (by omega), a6]
    · rw [cm_low h hr (by omega) (by omega) (by omega), a7]
  · unfold N2
    rw [cm_nl h hr]
    refine ⟨fun l hl => ?_, fun l h0 hl => ?_, ?_, ?_⟩
    · rw [cm_tp h hr l (by omega)]
      by_cases c : l = nl N - 1
      · rw [if_pos c, c, cm_tip h hr]; exact ⟨rfl, by omega⟩
      · rw [if_neg c, cm_low h hr (by omega) (by omega) (by omega)]; exact h2.1 l hl
    · obtain ⟨c1, c2, c3, c4, c5⟩ := h2.2.1 l h0 hl
      rw [cm_pr h hr l (by omega), cm_fk h hr l (by omega), cm_tp h hr l (by omega), cm_tp h hr (pr N l) (by omega), cm_low h hr (by omega) (by omega) (by omega), cm_low h hr (by omega) (by omega) (by omega)]
      refine ⟨c1, c2, c3, ?_, ?_⟩
      · split <;> omega
      · split <;> omega
    · rw [cm_low h hr (by omega) (by omega) (by omega)]; exact h2.2.2.1
    · rw [cm_low h hr (by omega) (by omega) (by omega)]; exact h2.2.2.2
  · unfold N3
    rw [cm_nl h hr]
    refine ⟨fun l k hl hk => ?_, fun l k hn hl hk => ?_⟩
    · rw [cm_kp h hr hl hk, cm_con h hr hl hk]
      split
      · exact ⟨rfl, by omega⟩
      · exact h3.1 l k hl hk
    · rw [cm_kp h hr hl hk, if_neg (by omega)]; exact h3.2 l k hn hl hk
  · intro l p hl hp1 hp2
    rw [cm_nl h hr] at hl
    rw [cm_fk h hr l (by omega)] at hp1
    rw [cm_tp h hr l (by omega)] at hp2
    have ht := (h2.1 l hl).2
    rw [cm_pg h hr]
    by_cases c : l = nl N - 1 ∧ p = tp N (nl N - 1) + 1
    · rw [c.1, c.2, (cm_rec h hr).1, (cm_rec h hr).2.1]
      exact ⟨s, hs, rfl, hb⟩
    · have hp3 : p ≤ tp N l := by
        by_cases c2 : l = nl N - 1
        · rw [if_pos c2] at hp2; rw [c2] at hp2 c ⊢; omega
        · rw [if_neg c2] at hp2; exact hp2
      rw [show cmN N (nI s) b v (ra l p) = N (ra l p) from cm_recN h hr (i := 0) (by omega) (by omega) (by omega) c, cm_recN h hr (i := 1) (by omega) (by omega) (by omega) c]
      exact h4 l p hl hp1 hp3
  · intro c hc
    rw [cm_nc h hr] at hc
    have e : ∀ i, i < 360 → cmN N (nI s) b v (60 + i) = N (60 + i) := fun i hi => cm_low h hr (by omega) (by omega) (by omega)
    obtain ⟨c1, c2, c3, c4⟩ := h5 c hc
    rw [cm_pg h hr]
    unfold co cd tk tl tw at *
    have q1 : cmN N (nI s) b v (60 + 4 * c + 1) = N (60 + 4 * c + 1) := cm_low h hr (by omega) (by omega) (by omega)
    have q2 : cmN N (nI s) b v (60 + 4 * c + 2) = N (60 + 4 * c + 2) := cm_low h hr (by omega) (by omega) (by omega)
    have q3 : cmN N (nI s) b v (60 + 4 * c + 3) = N (60 + 4 * c + 3) := cm_low h hr (by omega) (by omega) (by omega)
    rw [q1, q2, q3]
    refine ⟨c1, c2, c3, fun g hg => ?_⟩
    have q4 : cmN N (nI s) b v (100 + 4 * (8 * c + g)) = N (100 + 4 * (8 * c + g)) := cm_low h hr (by omega) (by omega) (by omega)
    have q5 : cmN N (nI s) b v (100 + 4 * (8 * c + g) + 1) = N (100 + 4 * (8 * c + g) + 1) := cm_low h hr (by omega) (by omega) (by omega)
    have q6 : cmN N (nI s) b v (100 + 4 * (8 * c + g) + 2) = N (100 + 4 * (8 * c + g) + 2) := cm_low h hr (by omega) (by omega) (by omega)
    rw [q4, q5, q6]
    exact c4 g hg
