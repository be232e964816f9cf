/-! PURE: the law, call by call -/
theorem law_step {F L n j : Nat} (hF : 8000 < F) (hR : RD F) {xs : Nat → Int32} {σ τ : St} {ex : Nat → Bool} {β : Nat → St} (I : Inv σ τ ex β) (hK : ∀ σ' τ' ex' β', Inv σ' τ' ex' β' → f_law F L xs n (j + 1) σ' τ' ex' β' = some 1) : f_law F L xs (n + 1) j σ τ ex β = some 1 := by
  have C := I.1
  rw [f_law]
  by_cases c : 6 * j + 6 ≤ L
  · refine (if_pos c).trans ?_
    by_cases c0 : (xs (6 * j) &&& 63) = 0
    · refine (if_pos c0).trans ?_
      exact law_I hK (op_feed (by omega) I _ _ _ _ _)
    refine (if_neg c0).trans ?_
    by_cases c1 : (xs (6 * j) &&& 63) = 1
    · refine (if_pos c1).trans ?_
      exact law_I hK (op_back I _)
    refine (if_neg c1).trans ?_
    by_cases c2 : (xs (6 * j) &&& 63) = 2
    · refine (if_pos c2).trans ?_
      exact law_I hK (hR _ _ _ _ I)
    refine (if_neg c2).trans ?_
    by_cases c3 : (xs (6 * j) &&& 63) = 3
    · refine (if_pos c3).trans ?_
      exact law_Q I hK ⟨_, rfl, congrArg some I.2.2.2.1.symm⟩
    refine (if_neg c3).trans ?_
    by_cases c4 : (xs (6 * j) &&& 63) = 4
    · refine (if_pos c4).trans ?_
      exact law_X I hK (op_write C _ _).toX
    refine (if_neg c4).trans ?_
    by_cases c5 : (xs (6 * j) &&& 63) = 5
    · refine (if_pos c5).trans ?_
      exact law_X I hK (op_add C _ _).toX
    refine (if_neg c5).trans ?_
    by_cases c6 : (xs (6 * j) &&& 63) = 6
    · refine (if_pos c6).trans ?_
      exact law_X I hK (op_mark C _).toX
    refine (if_neg c6).trans ?_
    by_cases c7 : (xs (6 * j) &&& 63) = 7
    · refine (if_pos c7).trans ?_
      exact law_X I hK (op_fill (by omega) C).toX
    refine (if_neg c7).trans ?_
    by_cases c8 : (xs (6 * j) &&& 63) = 8
    · refine (if_pos c8).trans ?_
      exact law_X I hK (op_copy (by omega) C _).toX
    refine (if_neg c8).trans ?_
    by_cases c9 : (xs (6 * j) &&& 63) = 9
    · refine (if_pos c9).trans ?_
      exact law_X I hK (op_take (by omega) C _ _).toX
    refine (if_neg c9).trans ?_
    by_cases c10 : (xs (6 * j) &&& 63) = 10
    · refine (if_pos c10).trans ?_
      exact law_X I hK (op_close C _).toX
    refine (if_neg c10).trans ?_
    by_cases c11 : (xs (6 * j) &&& 63) = 11
    · refine (if_pos c11).trans ?_
      exact law_X I hK (op_combine (by omega) C _).toX
    refine (if_neg c11).trans ?_
    by_cases c12 : (xs (6 * j) &&& 63) = 12
    · refine (if_pos c12).trans ?_
      exact law_X I hK (op_drop (by omega) C _).toX
    refine (if_neg c12).trans ?_
    by_cases c13 : (xs (6 * j) &&& 63) = 13
    · refine (if_pos c13).trans ?_
      exact law_X I hK (op_restore (by omega) C _ _ _).toX
    refine (if_neg c13).trans ?_
    by_cases c14 : (xs (6 * j) &&& 63) = 14
    · refine (if_pos c14).trans ?_
      exact law_X I hK (op_lose C _ _).toX
    refine (if_neg c14).trans ?_
    by_cases c15 : (xs (6 * j) &&& 63) = 15
    · refine (if_pos c15).trans ?_
      exact law_X I hK (op_twice C _ _ _).toX
    refine (if_neg c15).trans ?_
    by_cases c16 : (xs (6 * j) &&& 63) = 16
    · refine (if_pos c16).trans ?_
      exact law_Q I hK (q_page (by omega) C _ _ _)
    refine (if_neg c16).trans ?_
    by_cases c17 : (xs (6 * j) &&& 63) = 17
    · refine (if_pos c17).trans ?_
      exact law_Q I hK (q_record (by omega) C _ _ _)
    refine (if_neg c17).trans ?_
    by_cases c18 : (xs (6 * j) &&& 63) = 18
    · refine (if_pos c18).trans ?_
      exact law_Q I hK (q_value (by omega) C _ _)
    refine (if_neg c18).trans ?_
    by_cases c19 : (xs (6 * j) &&& 63) = 19
    · refine (if_pos c19).trans ?_
      exact law_Q I hK (q_line (by omega) C _ _)
    refine (if_neg c19).trans ?_
    by_cases c20 : (xs (6 * j) &&& 63) = 20
    · refine (if_pos c20).trans ?_
      exact law_Q I hK (q_piece C _ _)
    refine (if_neg c20).trans ?_
    by_cases c21 : (xs (6 * j) &&& 63) = 21
    · refine (if_pos c21).trans ?_
      exact law_Q I hK (q_made (by omega) C _ _)
    refine (if_neg c21).trans ?_
    by_cases c22 : (xs (6 * j) &&& 63) = 22
    · refine (if_pos c22).trans ?_
      exact law_Q I hK (q_source (by omega) C _ _)
    refine (if_neg c22).trans ?_
    by_cases c23 : (xs (6 * j) &&& 63) = 23
    · refine (if_pos c23).trans ?_
      exact law_Q I hK (q_taken (by omega) C _ _)
    refine (if_neg c23).trans ?_
    by_cases c24 : (xs (6 * j) &&& 63) = 24
    · refine (if_pos c24).trans ?_
      exact law_Q I hK (q_held (by omega) C _ _)
    refine (if_neg c24).trans ?_
    by_cases c25 : (xs (6 * j) &&& 63) = 25
    · refine (if_pos c25).trans ?_
      exact law_X I hK (op_would (by omega) C _ _ _).toX
    refine (if_neg c25).trans ?_
    by_cases c26 : (xs (6 * j) &&& 63) = 26
    · refine (if_pos c26).trans ?_
      exact law_X I hK (op_named (by omega) C I.2.1 _ _ _ _)
    refine (if_neg c26).trans ?_
    by_cases c27 : (xs (6 * j) &&& 63) = 27
    · refine (if_pos c27).trans ?_
      exact law_X I hK (op_needs (by omega) C _ _ _ _).toX
    refine (if_neg c27).trans ?_
    by_cases c28 : (xs (6 * j) &&& 63) = 28
    · refine (if_pos c28).trans ?_
      exact law_X I hK (op_best (by omega) C _ _).toX
    refine (if_neg c28).trans ?_
    by_cases c29 : (xs (6 * j) &&& 63) = 29
    · refine (if_pos c29).trans ?_
      exact law_X I hK (op_pinned (by omega) C _ _).toX
    refine (if_neg c29).trans ?_
    by_cases c30 : (xs (6 * j) &&& 63) = 30
    · refine (if_pos c30).trans ?_
      exact law_Q I hK (q_dirty (by omega) C _)
    refine (if_neg c30).trans ?_
    by_cases c31 : (xs (6 * j) &&& 63) = 31
    · refine (if_pos c31).trans ?_
      exact law_Q I hK (q_common (by omega) C _ _)
    refine (if_neg c31).trans ?_
    by_cases c32 : (xs (6 * j) &&& 63) = 32
    · refine (if_pos c32).trans ?_
      exact law_Q I hK (q_gaps (by omega) C _ _)
    refine (if_neg c32).trans ?_
    by_cases c33 : (xs (6 * j) &&& 63) = 33
    · refine (if_pos c33).trans ?_
      exact law_Q I hK (q_stop (by omega) C _ _ _)
    refine (if_neg c33).trans ?_
    by_cases c34 : (xs (6 * j) &&& 63) = 34
    · refine (if_pos c34).trans ?_
      exact law_X I hK (op_window (by omega) C _ _ _).toX
    refine (if_neg c34).trans ?_
    by_cases c35 : (xs (6 * j) &&& 63) = 35
    · refine (if_pos c35).trans ?_
      exact law_X I hK (op_reach (by omega) C _)
    refine (if_neg c35).trans ?_
    by_cases c36 : (xs (6 * j) &&& 63) = 36
    · refine (if_pos c36).trans ?_
      exact law_X I hK (op_spare (by omega) C).toX
    refine (if_neg c36).trans ?_
    by_cases c37 : (xs (6 * j) &&& 63) = 37
    · refine (if_pos c37).trans ?_
      exact law_X I hK (op_hurts (by omega) C _ _)
    refine (if_neg c37).trans ?_
    by_cases c38 : (xs (6 * j) &&& 63) = 38
    · refine (if_pos c38).trans ?_
      exact law_X I hK (op_newest (by omega) C _).toX
    refine (if_neg c38).trans ?_
    by_cases c39 : (xs (6 * j) &&& 63) = 39
    · refine (if_pos c39).trans ?_
      exact law_Q I hK (q_age (by omega) C _)
    refine (if_neg c39).trans ?_
    by_cases c40 : (xs (6 * j) &&& 63) = 40
    · refine (if_pos c40).trans ?_
      exact law_X I hK (op_work (by omega) C _ _ _).toX
    refine (if_neg c40).trans ?_
    by_cases c41 : (xs (6 * j) &&& 63) = 41
    · refine (if_pos c41).trans ?_
      exact law_Q I hK (q_differ (by omega) C _ _ _ _)
    refine (if_neg c41).trans ?_
    by_cases c42 : (xs (6 * j) &&& 63) = 42
    · refine (if_pos c42).trans ?_
      exact law_Q I hK (q_last (by omega) C _ _ _)
    refine (if_neg c42).trans ?_
    by_cases c43 : (xs (6 * j) &&& 63) = 43
    · refine (if_pos c43).trans ?_
      exact law_Q I hK (q_way (by omega) C _ _)
    refine (if_neg c43).trans ?_
    by_cases c44 : (xs (6 * j) &&& 63) = 44
    · refine (if_pos c44).trans ?_
      exact law_Q I hK (q_where (by omega) C _ _)
    refine (if_neg c44).trans ?_
    by_cases c45 : (xs (6 * j) &&& 63) = 45
    · refine (if_pos c45).trans ?_
      obtain ⟨r, τ', e1, e2, g, e⟩ := q_busiest (F := F) (by omega) C (xs (6 * j + 1)) (xs (6 * j + 2))
      unfold fL_45
      rw [cal_w e1, cal2_w e2, if_pos rfl]
      have C' : Core σ τ' := by
        unfold Core
        rw [e]
        exact C
      exact hK _ _ _ _ (I.opx C' ⟨fun _ _ => rfl, fun _ _ => rfl, rfl⟩ id g (by rw [e]))
    refine (if_neg c45).trans ?_
    by_cases c46 : (xs (6 * j) &&& 63) = 46
    · refine (if_pos c46).trans ?_
      exact law_hold (by omega) I hK
    refine (if_neg c46).trans ?_
    by_cases c47 : (xs (6 * j) &&& 63) = 47
    · refine (if_pos c47).trans ?_
      exact law_again (by omega) I hK
    refine (if_neg c47).trans ?_
    by_cases c48 : (xs (6 * j) &&& 63) = 48
    · refine (if_pos c48).trans ?_
      obtain ⟨hl, l1, l2, l3⟩ := I.2.2.2.2.2.1
      obtain ⟨k, k1, k2, k3, k4⟩ := I.2.2.1
      exact law_Q I hK (q_count (by omega) C (by rw [k2, k3]) I.2.2.2.2.1 l1 l2 _)
    refine (if_neg c48).trans ?_
    exact hK _ _ _ _ I
  · exact if_neg c
theorem law_all {F L : Nat} (hF : 8000 < F) (hR : RD F) {xs : Nat → Int32} : ∀ (n j : Nat) (σ τ : St) (ex : Nat → Bool) (β : Nat → St), Inv σ τ ex β → L < 6 * j + 6 * n → f_law F L xs n j σ τ ex β = some 1 ∨ n = 0 := by
  intro n
  induction n with
  | zero => intro j σ τ ex β _ _; exact Or.inr rfl
  | succ n ih =>
    intro j σ τ ex β I h
    refine Or.inl ?_
    by_cases e : 6 * j + 6 ≤ L
    · exact law_step hF hR I (fun σ' τ' ex' β' I' => by
        rcases ih (j + 1) σ' τ' ex' β' I' (by omega) with q | q
        · exact q
        · omega)
    · rw [f_law, if_neg e]
theorem s0_SB : SB s0 := ⟨rfl, 0, by omega, rfl⟩
theorem nwm0 (k : Nat) : nw m0 k = nI 0 := rfl
theorem ap_0 {F : Nat} {σ : St} {x : Int64} : f_X8_appends F σ x 0 = some x := rfl
def kyT (t : St) (k : Nat) : Prop := t.1 = m0.1 ∧ t.2.1 = m0.2.1 ∧ ∀ i, i < k → t.2.2 7 i = lN (kyN.getD i 0)
theorem kyT_s {t : St} {k : Nat} (h : kyT t k) {v : Int64} (e : v = lN (kyN.getD k 0)) : kyT (sl t 7 k v) (k + 1) := by
  obtain ⟨h1, h2, h3⟩ := h
  refine ⟨h1, h2, fun i hi => ?_⟩
  show (if (7 : Nat) = 7 then vp_updL (t.2.2 7) k v else t.2.2 7) i = _
  rw [if_pos rfl]
  unfold vp_updL
  by_cases c : i = k
  · rw [if_pos c, c]; exact e
  · rw [if_neg c]; exact h3 i (by omega)
theorem s0_JJ {N : Nat → Int32} : JJ s0 (bgN N 4 4) := by
  obtain ⟨q1, q2, q3, q4, q5, q6, q7⟩ := bg_acc (N := N) (p := 4) (w := 4) (by omega) (by omega)
  obtain ⟨v0, v1, v2, v20, v21, v22⟩ := bgN_v (N := N) (p := 4) (w := 4)
  have z4 : bgN N 4 4 4 = nI 0 := bgN_0 (by omega) (by omega) (by omega) (by omega) (by omega)
  have z5 : bgN N 4 4 5 = nI 0 := bgN_0 (by omega) (by omega) (by omega) (by omega) (by omega)
  refine ⟨⟨⟨?_, ?_, ?_, ?_, ?_⟩, ?_, ?_, ?_⟩, ⟨?_, ?_, ?_, ?_⟩, ⟨?_, ?_, ?_⟩⟩
  · rw [v0]; rfl
  · rw [v1]; rfl
  · rw [v2]; rfl
  · rw [z4]; rfl
  · rw [z5]; rfl
  · intro k hk
    rw [q3] at hk
    have : k = 0 := by omega
    subst this
    rw [q6]
    exact ⟨rfl, rfl, rfl, fun h => by omega⟩
  · rfl
  · rw [q3, q4]
    simp only [sm]
    rw [q6]
    rfl
  · intro l k hl h1 h2
    rw [q3] at hl
    have : l = 0 := by omega
    subst this
    rw [q6] at h2
    omega
  · intro l k hl hk
    rw [q3] at hl
    have : l = 0 := by omega
    subst this
    rw [q7 0 k (by omega) hk]
    rfl
  · intro i hi
    exact ⟨0, by omega, rfl⟩
  · intro i hi
    exact ⟨0, by omega, rfl⟩
  · rw [q5]; rfl
  · rw [q5]; rfl
  · intro c hc
    rw [q5] at hc
    omega
theorem init_all {F : Nat} (hF : 1400 < F) : ∃ τ0, f_X8_init F m0 = some τ0 ∧ Inv s0 τ0 (fun _ => false) (fun _ => s0) := by
  have k0 : kyT m0 0 := ⟨rfl, rfl, fun i hi => by omega⟩
  have l0 : ∀ t : St, f_X8_letters F t 112 97 103 101 115 0 0 = some (lN (kyN.getD 0 0)) := fun t => rfl
  have k1 := kyT_s k0 (v := lN (kyN.getD 0 0)) rfl
  have l1 : ∀ t : St, f_X8_letters F t 112 105 101 99 101 0 0 = some (lN (kyN.getD 1 0)) := fun t => rfl
  have k2 := kyT_s k1 (v := lN (kyN.getD 1 0)) rfl
  have l2 : ∀ t : St, f_X8_letters F t 119 114 105 116 101 0 0 = some (lN (kyN.getD 2 0)) := fun t => rfl
  have k3 := kyT_s k2 (v := lN (kyN.getD 2 0)) rfl
  have l3 : ∀ t : St, f_X8_letters F t 97 100 100 0 0 0 0 = some (lN (kyN.getD 3 0)) := fun t => rfl
  have k4 := kyT_s k3 (v := lN (kyN.getD 3 0)) rfl
  have l4 : ∀ t : St, f_X8_letters F t 109 97 114 107 0 0 0 = some (lN (kyN.getD 4 0)) := fun t => rfl
  have k5 := kyT_s k4 (v := lN (kyN.getD 4 0)) rfl
  have l5 : ∀ t : St, f_X8_letters F t 102 105 108 108 0 0 0 = some (lN (kyN.getD 5 0)) := fun t => rfl
  have k6 := kyT_s k5 (v := lN (kyN.getD 5 0)) rfl
  have l6 : ∀ t : St, f_X8_letters F t 99 111 112 121 0 0 0 = some (lN (kyN.getD 6 0)) := fun t => rfl
  have k7 := kyT_s k6 (v := lN (kyN.getD 6 0)) rfl
  have l7 : ∀ t : St, f_X8_letters F t 117 112 111 110 0 0 0 = some (lN (kyN.getD 7 0)) := fun t => rfl
  have k8 := kyT_s k7 (v := lN (kyN.getD 7 0)) rfl
  have l8 : ∀ t : St, f_X8_letters F t 116 97 107 101 0 0 0 = some (lN (kyN.getD 8 0)) := fun t => rfl
  have k9 := kyT_s k8 (v := lN (kyN.getD 8 0)) rfl
  have l9 : ∀ t : St, f_X8_letters F t 99 108 111 115 101 0 0 = some (lN (kyN.getD 9 0)) := fun t => rfl
  have k10 := kyT_s k9 (v := lN (kyN.getD 9 0)) rfl
  have l10 : ∀ t : St, f_X8_letters F t 114 101 115 116 111 114 101 = some (lN (kyN.getD 10 0)) := fun t => rfl
  have k11 := kyT_s k10 (v := lN (kyN.getD 10 0)) rfl
  have l11 : ∀ t : St, f_X8_letters F t 108 111 115 101 0 0 0 = some (lN (kyN.getD 11 0)) := fun t => rfl
  have k12 := kyT_s k11 (v := lN (kyN.getD 11 0)) rfl
  have l12 : ∀ t : St, f_X8_letters F t 100 111 0 0 0 0 0 = some (lN (kyN.getD 12 0)) := fun t => rfl
  have k13 := kyT_s k12 (v := lN (kyN.getD 12 0)) rfl
  have l13 : ∀ t : St, f_X8_letters F t 101 110 100 0 0 0 0 = some (lN (kyN.getD 13 0)) := fun t => rfl
  have k14 := kyT_s k13 (v := lN (kyN.getD 13 0)) rfl
  have l14 : ∀ t : St, f_X8_letters F t 105 0 0 0 0 0 0 = some (lN (kyN.getD 14 0)) := fun t => rfl
  have k15 := kyT_s k14 (v := lN (kyN.getD 14 0)) rfl
  have l15 : ∀ t : St, f_X8_letters F t 106 0 0 0 0 0 0 = some (lN (kyN.getD 15 0)) := fun t => rfl
  have k16 := kyT_s k15 (v := lN (kyN.getD 15 0)) rfl
  have l16 : ∀ t : St, f_X8_letters F t 112 108 97 99 101 0 0 = some (lN (kyN.getD 16 0)) := fun t => rfl
  have k17 := kyT_s k16 (v := lN (kyN.getD 16 0)) rfl
  have l17 : ∀ t : St, f_X8_letters F t 108 105 110 101 0 0 0 = some (lN (kyN.getD 17 0)) := fun t => rfl
  have k18 := kyT_s k17 (v := lN (kyN.getD 17 0)) rfl
  have l18 : ∀ t : St, f_X8_letters F t 99 111 112 105 101 115 0 = some (lN (kyN.getD 18 0)) := fun t => rfl
  have k19 := kyT_s k18 (v := lN (kyN.getD 18 0)) rfl
  have l19 : ∀ t : St, f_X8_letters F t 116 111 108 100 0 0 0 = some (lN (kyN.getD 19 0)) := fun t => rfl
  have k20 := kyT_s k19 (v := lN (kyN.getD 19 0)) rfl
  generalize ht : (sl (sl (sl (sl (sl (sl (sl (sl (sl (sl (sl (sl (sl (sl (sl (sl (sl (sl (sl (sl m0 7 0 (lN (kyN.getD 0 0))) 7 1 (lN (kyN.getD 1 0))) 7 2 (lN (kyN.getD 2 0))) 7 3 (lN (kyN.getD 3 0))) 7 4 (lN (kyN.getD 4 0))) 7 5 (lN (kyN.getD 5 0))) 7 6 (lN (kyN.getD 6 0))) 7 7 (lN (kyN.getD 7 0))) 7 8 (lN (kyN.getD 8 0))) 7 9 (lN (kyN.getD 9 0))) 7 10 (lN (kyN.getD 10 0))) 7 11 (lN (kyN.getD 11 0))) 7 12 (lN (kyN.getD 12 0))) 7 13 (lN (kyN.getD 13 0))) 7 14 (lN (kyN.getD 14 0))) 7 15 (lN (kyN.getD 15 0))) 7 16 (lN (kyN.getD 16 0))) 7 17 (lN (kyN.getD 17 0))) 7 18 (lN (kyN.getD 18 0))) 7 19 (lN (kyN.getD 19 0))) = t at k20
  have bg := t_begins (F := F) hF (τ := t) 4 4
  refine ⟨sw t 19 (bgN (nw t) 4 4), ?_, ?_, s0_SB, ⟨0, by omega, rfl, ?_, fun i hi => by omega⟩, ?_, ?_, ⟨fun _ => false, rfl, fun s hs => ?_, fun s hs q => by cases q⟩, fun i hi => k20.2.2 i hi⟩
  · unfold f_X8_init
    rw [cal_w (l0 _), bnd_i, cal_w (l1 _), bnd_i, cal_w (l2 _), bnd_i, cal_w (l3 _), bnd_i, cal_w (l4 _), bnd_i, cal_w (l5 _), bnd_i, cal_w (l6 _), bnd_i, cal_w (l7 _), bnd_i, cal_w (l8 _), bnd_i, cal_w (l9 _), bnd_i, cal_w (l10 _), bnd_i, cal_w (l11 _), bnd_i, cal_w (l12 _), bnd_i, cal_w (l13 _), bnd_i, cal_w (l14 _), bnd_i, cal_w (l15 _), bnd_i, cal_w (l16 _), bnd_i, cal_w (l17 _), bnd_i, cal_w (l18 _), bnd_i, cal_w (l19 _), bnd_i, ht, show (4 : Int32) = nI 4 from rfl, cal_w bg]
  · unfold Core nw
    rw [sw_at]
    exact ⟨NN_bg (by omega) (by omega) (by omega) (by omega), s0_JJ⟩
  · rw [sw_f, k20.1]; rfl
  · rw [sw_f, k20.1]; rfl
  · unfold nw
    rw [sw_at, bgN_0 (by omega) (by omega) (by omega) (by omega) (by omega)]; rfl
  · rw [sw_ne (by omega), k20.2.1]; rfl
theorem pure_of_read {F : Nat} (hF : 8000 < F) (hR : RD F) : PureLaw := by
  intro L xs hL
  obtain ⟨τ0, e, I⟩ := init_all (F := F) (by omega)
  refine ⟨F, 514, τ0, e, ?_⟩
  rcases law_all hF hR (L := L) (xs := xs) 514 0 s0 τ0 _ _ I (by omega) with q | q
  · exact q
  · omega
