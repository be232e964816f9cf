/-! PURE: the tokens of both sides, side by side -/
def TkE (kd vl pl : Nat → Nat) (e : Nat) : Prop := e ≤ 401 ∧ (∀ k, k < e → kd k ≤ 28) ∧ (kd e = 29 ∨ kd e = 30) ∧ (∀ k, k ≤ e → vl k < 10000) ∧ (∀ k, k ≤ e → pl k ≤ 2000) ∧ (∀ j k, j < k → k ≤ e → k ≤ 400 → pl j < pl k)
def TkD (kd vl pl : Nat → Nat) (e : Nat) (σ : St) : Prop := σ.1 19 = nI (e + 1) ∧ ∀ k, k ≤ e → σ.2.1 26 k = nI (kd k) ∧ σ.2.1 27 k = nI (vl k) ∧ σ.2.1 28 k = nI (pl k)
def TkM (kd vl pl : Nat → Nat) (e : Nat) (τ : St) : Prop := ∀ k, k ≤ e → k ≤ 400 → (∃ m, τ.2.1 3 k = nI m ∧ m < 50 ∧ (kd k ≤ 29 → m = mkOf (kd k)) ∧ (kd k = 30 → m = 1 ∨ m = 3)) ∧ τ.2.1 4 k = nI (pl k) ∧ (kd k = 20 → τ.2.1 5 k = nI (vl k))
theorem mkOf_lt (k : Nat) : mkOf k < 50 := by
  unfold mkOf
  repeat' split
  all_goals omega
theorem vV_lt {b : Nat → Nat} {L i : Nat} (hi : i < L) : vV b L i < 10000 := by
  unfold vV
  by_cases c : tK b L i = 20
  · rw [if_pos c]
    unfold tK at c
    cases dl : isLt (b i)
    · rw [dl] at c
      simp only [Bool.false_eq_true, if_false] at c
      cases dd : isDg (b i)
      · rw [dd] at c
        simp only [Bool.false_eq_true, if_false] at c
        unfold sgK at c
        exfalso
        revert c
        repeat' split
        all_goals omega
      · rw [dd] at c
        simp only [if_true] at c
        by_cases c4 : tE b L i - i ≤ 4
        · have ee : tE b L i = re b L isDg i := by unfold tE; rw [dl, dd]; rfl
          have r := re_P (b := b) (P := isDg) (i := i) (L := L) (by omega)
          have h := nmF_le (a := fun k => b (i + k)) (tE b L i - i) c4 (fun k hk => of_decide_eq_true (r.2.2.1 (i + k) (by omega) (by omega)))
          have b2 : (10 : Nat) ^ (tE b L i - i) ≤ 10 ^ 4 := Nat.pow_le_pow_right (by omega) c4
          unfold tV
          omega
        · rw [if_neg c4] at c; omega
    · rw [dl] at c
      simp only [if_true] at c
      exfalso
      have : ∀ v m w, w + m = 20 → wkF v m w ≠ 20 := by
        intro v m
        induction m with
        | zero => intro w _; show (30 : Nat) ≠ 20; omega
        | succ m ih => intro w hw; rw [wkF]; split; omega; exact ih (w + 1) (by omega)
      by_cases q3 : tE b L i - i ≤ 8
      · rw [if_pos q3] at c; exact this _ 20 0 rfl c
      · rw [if_neg q3] at c; omega
  · rw [if_neg c]; omega
theorem tq_lt {b : Nat → Nat} {L k : Nat} (h : tq b L k < L) : tq b L k < tq b L (k + 1) ∧ tq b L (k + 1) ≤ L := by
  obtain ⟨t1, t2⟩ := tE_P (b := b) h
  have n := nx_P (b := b) t2
  rw [tq_s h]
  omega
theorem toks {b : Nat → Nat} {L : Nat} (hL : L ≤ 2000) {σ τ : St} {e : Nat} (D : dE b L σ e) (M : mE b L τ) : ∃ kd vl pl, TkE kd vl pl e ∧ TkD kd vl pl e σ ∧ TkM kd vl pl e τ := by
  obtain ⟨d1, d2, d3, d4⟩ := D
  have lt : ∀ k, k < e → tq b L k < L := fun k hk => (d3 k hk).1.1
  have mono : ∀ d j, j + d < e → tq b L j ≤ tq b L (j + d) := by
    intro d
    induction d with
    | zero => intro j _; exact Nat.le_refl _
    | succ d ih =>
      intro j h
      have := ih j (by omega)
      have := (tq_lt (lt (j + d) (by omega))).1
      rw [← Nat.add_assoc]
      omega
  rcases d4 with ⟨⟨x1, x2, x3, x4⟩, x5, x6⟩ | ⟨x1, x2, x3, x4⟩
  · refine ⟨fun k => tK b L (tq b L k), fun k => vV b L (tq b L k), fun k => tq b L k, ⟨d2, fun k hk => (mM_K.1 (d3 k hk).2).2, Or.inr x5, fun k hk => ?_, fun k hk => ?_, fun j k h1 h2 _ => ?_⟩, ⟨d1, fun k hk => ?_⟩, fun k hk h4 => ?_⟩
    · dsimp only
      by_cases c : k = e
      · rw [c]; exact vV_lt x1
      · exact vV_lt (lt k (by omega))
    · dsimp only
      by_cases c : k = e
      · rw [c]; omega
      · have := lt k (by omega); omega
    · dsimp only
      have m1 := mono (k - 1 - j) j (by omega)
      rw [show j + (k - 1 - j) = k - 1 by omega] at m1
      have m2 := (tq_lt (lt (k - 1) (by omega))).1
      rw [show k - 1 + 1 = k by omega] at m2
      omega
    · dsimp only
      by_cases c : k = e
      · rw [c]; exact ⟨x2, x3, x4⟩
      · obtain ⟨-, y2, y3, y4⟩ := (d3 k (by omega)).1
        exact ⟨y2, y3, y4⟩
    · dsimp only
      have hk' : tq b L k < L := by
        by_cases c : k = e
        · rw [c]; exact x1
        · exact lt k (by omega)
      obtain ⟨y1, y2, y3⟩ := (M k h4 (fun j hj => lt j (by omega))).1 hk'
      have q := mM_K (b := b) (L := L) (i := tq b L k)
      refine ⟨⟨mM b L (tq b L k), y1, ?_, fun h => (q.1 (fun z => by have h : tK b L (tq b L k) ≤ 29 := h; omega)).1, fun h => q.2 h⟩, y2, fun h => ?_⟩
      · by_cases c : tK b L (tq b L k) = 30
        · have := q.2 c; omega
        · rw [(q.1 c).1]; exact mkOf_lt _
      · have h' : tK b L (tq b L k) = 20 := h
        rw [y3 h']
        show _ = nI (vV b L (tq b L k))
        unfold vV
        rw [if_pos h']
  · refine ⟨fun k => if k < e then tK b L (tq b L k) else 29, fun k => if k < e then vV b L (tq b L k) else 0, fun k => if k < e then tq b L k else L, ⟨d2, fun k hk => ?_, Or.inl (if_neg (by omega)), fun k hk => ?_, fun k hk => ?_, fun j k h1 h2 _ => ?_⟩, ⟨d1, fun k hk => ?_⟩, fun k hk h4 => ?_⟩
    · dsimp only
      rw [if_pos hk]; exact (mM_K.1 (d3 k hk).2).2
    · dsimp only
      by_cases c : k < e
      · rw [if_pos c]; exact vV_lt (lt k c)
      · rw [if_neg c]; omega
    · dsimp only
      by_cases c : k < e
      · rw [if_pos c]; have := lt k c; omega
      · rw [if_neg c]; exact hL
    · dsimp only
      rw [if_pos (show j < e by omega)]
      by_cases c : k < e
      · rw [if_pos c]
        have m1 := mono (k - 1 - j) j (by omega)
        rw [show j + (k - 1 - j) = k - 1 by omega] at m1
        have m2 := (tq_lt (lt (k - 1) (by omega))).1
        rw [show k - 1 + 1 = k by omega] at m2
        omega
      · rw [if_neg c]
        exact lt j (by omega)
    · dsimp only
      by_cases c : k < e
      · rw [if_pos c, if_pos c, if_pos c]
        obtain ⟨-, y2, y3, y4⟩ := (d3 k c).1
        exact ⟨y2, y3, y4⟩
      · rw [if_neg c, if_neg c, if_neg c, show k = e by omega]
        exact ⟨x1, x2, x3⟩
    · dsimp only
      have m := M k h4 (fun j hj => lt j (by omega))
      by_cases c : k < e
      · rw [if_pos c, if_pos c]
        obtain ⟨y1, y2, y3⟩ := m.1 (lt k c)
        have q := mM_K (b := b) (L := L) (i := tq b L k)
        have q1 := q.1 (d3 k c).2
        refine ⟨⟨mM b L (tq b L k), y1, by rw [q1.1]; exact mkOf_lt _, fun h => q1.1, fun h => absurd h (d3 k c).2⟩, y2, fun h => ?_⟩
        rw [if_pos c, y3 h]
        unfold vV
        rw [if_pos h]
      · rw [if_neg c, if_neg c]
        have ek : k = e := by omega
        obtain ⟨y1, y2⟩ := m.2 (by
          rcases x4 with q | q
          · rw [ek]; exact q
          · omega)
        exact ⟨⟨0, y1, by omega, fun _ => rfl, fun h => by omega⟩, y2, fun h => by omega⟩
