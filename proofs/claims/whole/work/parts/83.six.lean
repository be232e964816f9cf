/-! PURE: the number of tells does not matter to a store -/
section
variable {N M : Nat → Int32}
theorem cg_acc6 (e : ∀ k, k < 7164 → k ≠ 6 → M k = N k) : pg M = pg N ∧ wd M = wd N ∧ nl M = nl N ∧ md M = md N ∧ nc M = nc N ∧ (∀ l, l < 8 → tp M l = tp N l ∧ pr M l = pr N l ∧ fk M l = fk N l) ∧ (∀ l k, l < 8 → k < 120 → kp M l k = kp N l k) ∧ (∀ c, c < 10 → co M c = co N c ∧ cd M c = cd N c) ∧ (∀ c g, c < 10 → g < 8 → tk M c g = tk N c g ∧ tl M c g = tl N c g ∧ tw M c g = tw N c g) := by
  unfold pg wd nl md nc tp pr fk kp co cd tk tl tw
  rw [e 0 (by omega) (by omega), e 1 (by omega) (by omega), e 2 (by omega) (by omega), e 4 (by omega) (by omega), e 5 (by omega) (by omega)]
  refine ⟨rfl, rfl, rfl, rfl, rfl, fun l hl => ?_, fun l k hl hk => ?_, fun c hc => ?_, fun c g hc hg => ?_⟩
  · rw [e (20 + 4 * l) (by omega) (by omega), e (20 + 4 * l + 1) (by omega) (by omega), e (20 + 4 * l + 2) (by omega) (by omega)]; exact ⟨rfl, rfl, rfl⟩
  · rw [e (420 + 120 * l + k) (by omega) (by omega)]
  · rw [e (60 + 4 * c + 2) (by omega) (by omega), e (60 + 4 * c + 3) (by omega) (by omega)]; exact ⟨rfl, rfl⟩
  · rw [e (100 + 4 * (8 * c + g)) (by omega) (by omega), e (100 + 4 * (8 * c + g) + 1) (by omega) (by omega), e (100 + 4 * (8 * c + g) + 2) (by omega) (by omega)]; exact ⟨rfl, rfl, rfl⟩
theorem cg_sm6 (e : ∀ k, k < 7164 → k ≠ 6 → M k = N k) : ∀ l, l ≤ 8 → sm M l = sm N l := by
  obtain ⟨-, -, -, -, -, q6, -⟩ := cg_acc6 e
  intro l
  induction l with
  | zero => intro _; rfl
  | succ l ih =>
    intro hl
    obtain ⟨x1, x2, x3⟩ := q6 l (by omega)
    simp only [sm]
    rw [ih (by omega), x1, x3]
theorem NN_cong6 (e6 : ∃ m, m ≤ 300 ∧ M 6 = nI m) (e : ∀ k, k < 7164 → k ≠ 6 → M k = N k) (h : NN N) : NN M := by
  obtain ⟨b1, b2, b3, b4, b5, b6, b7, b8⟩ := NNb h
  obtain ⟨q1, q2, q3, q4, q5, q6, q7, q8, q9⟩ := cg_acc6 e
  obtain ⟨h1, h2, h3, h4, h5⟩ := h
  have h : NN N := ⟨h1, h2, h3, h4, h5⟩
  refine ⟨?_, ?_, ?_, ?_, ?_⟩
  · unfold N1
    rw [q1, q2, q3, q4, q5, e 0 (by omega) (by omega), e 1 (by omega) (by omega), e 2 (by omega) (by omega), e 3 (by omega) (by omega), e 4 (by omega) (by omega), e 5 (by omega) (by omega)]
    exact ⟨h1.1, h1.2.1, h1.2.2.1, h1.2.2.2.1, h1.2.2.2.2.1, h1.2.2.2.2.2.1, e6⟩
  · unfold N2
    rw [q3, e 21 (by omega) (by omega), e 22 (by omega) (by omega)]
    refine ⟨fun k hk => ?_, fun k h0 hk => ?_, h2.2.2.1, h2.2.2.2⟩
    · rw [(q6 k (by omega)).1, e (20 + 4 * k) (by omega) (by omega)]; exact h2.1 k hk
    · obtain ⟨c1, c2, c3, c4, c5⟩ := h2.2.1 k h0 hk
      obtain ⟨x1, x2, x3⟩ := q6 k (by omega)
      rw [x1, x2, x3, (q6 (pr N k) (by omega)).1, e (20 + 4 * k + 1) (by omega) (by omega), e (20 + 4 * k + 2) (by omega) (by omega)]
      exact ⟨c1, c2, c3, c4, c5⟩
  · unfold N3
    rw [q3]
    refine ⟨fun l k hl hk => ?_, fun l k hn hl hk => ?_⟩
    · rw [q7 l k hl hk, e (420 + 120 * l + k) (by omega) (by omega)]; exact h3.1 l k hl hk
    · rw [q7 l k hl hk]; exact h3.2 l k hn hl hk
  · intro l p hl hp1 hp2
    rw [q3] at hl
    obtain ⟨x1, x2, x3⟩ := q6 l (by omega)
    rw [x3] at hp1
    rw [x1] at hp2
    have ht := (h2.1 l hl).2
    unfold ra
    rw [q1, e (1380 + 3 * (241 * l + p)) (by omega) (by omega), e (1380 + 3 * (241 * l + p) + 1) (by omega) (by omega)]
    exact h4 l p hl hp1 hp2
  · intro c hc
    rw [q5] at hc
    obtain ⟨c1, c2, c3, c4⟩ := h5 c hc
    rw [q1, (q8 c (by omega)).1, (q8 c (by omega)).2, e (60 + 4 * c + 1) (by omega) (by omega), e (60 + 4 * c + 2) (by omega) (by omega), e (60 + 4 * c + 3) (by omega) (by omega)]
    refine ⟨c1, c2, c3, fun g hg => ?_⟩
    obtain ⟨x1, x2, x3⟩ := q9 c g (by omega) hg
    rw [x1, x2, x3, e (100 + 4 * (8 * c + g)) (by omega) (by omega), e (100 + 4 * (8 * c + g) + 1) (by omega) (by omega), e (100 + 4 * (8 * c + g) + 2) (by omega) (by omega)]
    exact c4 g hg
theorem JJ_cong6 {σ : St} (e : ∀ k, k < 7164 → k ≠ 6 → M k = N k) (h : NN N) (j : JJ σ N) : JJ σ M := by
  obtain ⟨b1, b2, b3, b4, b5, b6, b7, b8⟩ := NNb h
  obtain ⟨q1, q2, q3, q4, q5, q6, q7, q8, q9⟩ := cg_acc6 e
  obtain ⟨⟨⟨a0, a1, a2, a3, a4⟩, al, ap, am⟩, ⟨ar, ac, as, aq⟩, ⟨ao, ad, ax⟩⟩ := j
  refine ⟨⟨⟨?_, ?_, ?_, ?_, ?_⟩, ?_, ap, ?_⟩, ⟨?_, ?_, as, aq⟩, ⟨?_, ?_, ?_⟩⟩
  · rw [e 0 (by omega) (by omega)]; exact a0
  · rw [e 1 (by omega) (by omega)]; exact a1
  · rw [e 2 (by omega) (by omega)]; exact a2
  · rw [e 4 (by omega) (by omega)]; exact a3
  · rw [e 5 (by omega) (by omega)]; exact a4
  · intro k hk
    rw [q3] at hk
    obtain ⟨x1, x2, x3⟩ := q6 k (by omega)
    rw [x1, x2, x3, cg_sm6 e k (by omega)]
    exact al k hk
  · rw [q3, q4, cg_sm6 e (nl N) b6]; exact am
  · intro l p hl hp1 hp2
    rw [q3] at hl
    obtain ⟨x1, x2, x3⟩ := q6 l (by omega)
    rw [x3] at hp1 ⊢
    rw [x1] at hp2
    have ht := (h.2.1.1 l hl).2
    unfold ra
    rw [cg_sm6 e l (by omega), e (1380 + 3 * (241 * l + p)) (by omega) (by omega), e (1380 + 3 * (241 * l + p) + 1) (by omega) (by omega), e (1380 + 3 * (241 * l + p) + 2) (by omega) (by omega)]
    exact ar l p hl hp1 hp2
  · intro l k hl hk
    rw [q3] at hl
    rw [q7 l k (by omega) hk]
    exact ac l k hl hk
  · rw [q5, ao]
    congr 1
    exact bs_cong (fun c hc => (q8 c (by omega)).1.symm)
  · rw [q5, ad]
    congr 1
    exact bs_cong (fun c hc => (q8 c (by omega)).2.symm)
  · intro c hc
    rw [q5] at hc
    obtain ⟨y1, y2, y3, y4⟩ := ax c hc
    rw [e (60 + 4 * c) (by omega) (by omega), e (60 + 4 * c + 1) (by omega) (by omega)]
    refine ⟨y1, y2, ?_, ?_⟩
    · rw [y3]
      congr 1
      exact bs_cong (fun g hg => (q9 c g (by omega) hg).1.symm)
    · intro g hg hk
      obtain ⟨x1, x2, x3⟩ := q9 c g (by omega) hg
      rw [x1] at hk
      rw [x2, x3, e (100 + 4 * (8 * c + g) + 3) (by omega) (by omega)]
      exact y4 g hg hk
end
