/-! PURE: the desk's scan, the model's cutsUp -/
def nx (b : Nat → Nat) (L i : Nat) : Nat := re b L isBl i
def tq (b : Nat → Nat) (L : Nat) : Nat → Nat
  | 0 => nx b L 0
  | k + 1 => if tq b L k < L then nx b L (tE b L (tq b L k)) else L
theorem tq_s {b : Nat → Nat} {L k : Nat} (h : tq b L k < L) : tq b L (k + 1) = nx b L (tE b L (tq b L k)) := by rw [tq, if_pos h]
theorem nx_P {b : Nat → Nat} {L i : Nat} (h : i ≤ L) : i ≤ nx b L i ∧ nx b L i ≤ L := ⟨(re_P h).1, (re_P h).2.1⟩
def vV (b : Nat → Nat) (L i : Nat) : Nat := if tK b L i = 20 then tV b L i else 0
/-- what the desk's token is -/
def dT (b : Nat → Nat) (L : Nat) (σ : St) (k : Nat) : Prop := tq b L k < L ∧ σ.2.1 26 k = nI (tK b L (tq b L k)) ∧ σ.2.1 27 k = nI (vV b L (tq b L k)) ∧ σ.2.1 28 k = nI (tq b L k)
def FrK (σ σ' : St) : Prop := (∀ k, k ≠ 19 → σ'.1 k = σ.1 k) ∧ (∀ r, r < 26 ∨ 28 < r → σ'.2.1 r = σ.2.1 r) ∧ σ'.2.2 = σ.2.2
theorem FrK.trans {a b c : St} (h : FrK a b) (k : FrK b c) : FrK a c := ⟨fun i h1 => (k.1 i h1).trans (h.1 i h1), fun i hi => (k.2.1 i hi).trans (h.2.1 i hi), k.2.2.trans h.2.2⟩
def puT (σ : St) (n : Nat) (x y z : Int32) : St := ss (sr (sr (sr σ 26 n x) 27 n y) 28 n z) 19 (nI (n + 1))
theorem FrK.put {σ : St} {n : Nat} {x y z : Int32} : FrK σ (puT σ n x y z) := ⟨fun k h => ss_ne h, fun r hr => by unfold puT; rw [ss_r, sr_ne (by omega), sr_ne (by omega), sr_ne (by omega)], rfl⟩
theorem puT_r {σ : St} {n : Nat} {x y z : Int32} : (puT σ n x y z).1 19 = nI (n + 1) ∧ (puT σ n x y z).2.1 26 = upd (σ.2.1 26) n x ∧ (puT σ n x y z).2.1 27 = upd (σ.2.1 27) n y ∧ (puT σ n x y z).2.1 28 = upd (σ.2.1 28) n z := by
  unfold puT
  refine ⟨ss_same, ?_, ?_, ?_⟩
  · rw [ss_r, sr_ne (by omega), sr_ne (by omega), sr_same]
  · rw [ss_r, sr_ne (by omega), sr_same, sr_ne (by omega)]
  · rw [ss_r, sr_same, sr_ne (by omega), sr_ne (by omega)]
theorem d_putT {F : Nat} {σ : St} {n : Nat} (h : σ.1 19 = nI n) (hn : n < 402) (x y z : Int32) : f_X6_put F σ x y z = some (puT σ n x y z) := by
  unfold f_X6_put puT
  simp (disch := omega) only [↓bnd_i, ↓cal_s, ↓cal_n, ↓cal2_s, ↓cal2_n, cal_s, cal2_s, ↓reduceIte, fa_lit, m1_lit, m2_lit, m1_lt, m2_lt, m1_eq, m2_eq, m1_le, m2_le, le_m1, le_m2, lt_m1, lt_m2, m12, m21, m1_m1, n_lt, n_le, n_eq, lt_t, lt_f, le_t, le_f, eq_t, eq_f, n_cl, inb_ok, n_add, pk_mul, pk_sub, n_rem, n_div, n_dec, n_mx, n_mn, eq_m1, eq_m2, ss_same, ss_ne, ss_r, ss_l, sr_f, sr_l, sr_same, sr_ne, sw_f, sw_l, sw_at, sw_ne, pk_us, pk_un, bI_t, bI_f, not_true_eq_false, not_false_eq_true, eq_self, and_true, true_and, and_false, false_and, or_true, true_or, or_false, false_or, decide_true, decide_false, Bool.false_eq_true, Bool.true_eq_false, h]
theorem dT_put {b : Nat → Nat} {L : Nat} {σ : St} {n k : Nat} {x y z : Int32} (h : k < n) (d : dT b L σ k) : dT b L (puT σ n x y z) k := by
  obtain ⟨-, p1, p2, p3⟩ := puT_r (σ := σ) (n := n) (x := x) (y := y) (z := z)
  unfold dT at *
  rw [p1, p2, p3, pk_un (by omega), pk_un (by omega), pk_un (by omega)]
  exact d
/-- how the desk's tokens end -/
def dE (b : Nat → Nat) (L : Nat) (σ : St) (e : Nat) : Prop := σ.1 19 = nI (e + 1) ∧ e ≤ 401 ∧ (∀ k, k < e → dT b L σ k ∧ tK b L (tq b L k) ≠ 30) ∧ ((dT b L σ e ∧ tK b L (tq b L e) = 30 ∧ e ≤ 400) ∨ (σ.2.1 26 e = nI 29 ∧ σ.2.1 27 e = nI 0 ∧ σ.2.1 28 e = nI L ∧ (tq b L e = L ∨ e = 401)))
theorem TxD.fr {b : Nat → Nat} {L : Nat} {σ σ' : St} (T : TxD b L σ) (f : FrK σ σ') : TxD b L σ' := ⟨T.1, fun i hi => by rw [f.2.1 9 (by omega)]; exact T.2 i hi⟩
theorem dE_end {b : Nat → Nat} {L : Nat} {σ : St} {n : Nat} (hn : n ≤ 401) (hk : ∀ k, k < n → dT b L σ k ∧ tK b L (tq b L k) ≠ 30) (he : tq b L n = L ∨ n = 401) : dE b L (puT σ n (nI 29) (nI 0) (nI L)) n := by
  obtain ⟨p0, p1, p2, p3⟩ := puT_r (σ := σ) (n := n) (x := nI 29) (y := nI 0) (z := nI L)
  refine ⟨p0, hn, fun k h => ⟨dT_put h (hk k h).1, (hk k h).2⟩, Or.inr ⟨?_, ?_, ?_, he⟩⟩
  · rw [p1, pk_us]
  · rw [p2, pk_us]
  · rw [p3, pk_us]
theorem d_scanL {F : Nat} (hF : 2100 < F) {b : Nat → Nat} {L : Nat} : ∀ (m i s n : Nat) (σ : St), TxD b L σ → i ≤ L → s ≤ i → n ≤ 401 → L - i < m → σ.1 19 = nI n → nx b L i = tq b L n → (∀ k, k < n → dT b L σ k ∧ tK b L (tq b L k) ≠ 30) → ∃ σ' e, f_X6_scan_18 F m σ (nI L) (nI i) (nI s) = some σ' ∧ dE b L σ' e ∧ FrK σ σ' := by
  intro m
  induction m with
  | zero => intro i s n σ _ _ _ _ h; omega
  | succ m ih =>
    intro i s n σ T hi hs hn hm h19 hq hk
    have hL := T.1
    have pe := d_putT (F := F) h19 (by omega) (nI 29) (nI 0) (nI L)
    rw [f_X6_scan_18]
    by_cases eL : i = L
    · have q : tq b L n = L := by rw [← hq, eL]; unfold nx; exact re_n (Or.inl (Nat.le_refl _))
      refine ⟨_, n, ?_, dE_end hn hk (Or.inl q), FrK.put⟩
      by_cases s2 : 2000 ≤ s
      · simp (disch := omega) only [↓bnd_i, ↓cal_s, ↓cal_n, ↓cal2_s, ↓cal2_n, cal_s, cal2_s, ↓reduceIte, fa_lit, m1_lit, m2_lit, m1_lt, m2_lt, m1_eq, m2_eq, m1_le, m2_le, le_m1, le_m2, lt_m1, lt_m2, m12, m21, m1_m1, n_lt, n_le, n_eq, lt_t, lt_f, le_t, le_f, eq_t, eq_f, n_cl, inb_ok, n_add, pk_mul, pk_sub, n_rem, n_div, n_dec, n_mx, n_mn, eq_m1, eq_m2, ss_same, ss_ne, ss_r, ss_l, sr_f, sr_l, sr_same, sr_ne, sw_f, sw_l, sw_at, sw_ne, pk_us, pk_un, bI_t, bI_f, not_true_eq_false, not_false_eq_true, eq_self, and_true, true_and, and_false, false_and, or_true, true_or, or_false, false_or, decide_true, decide_false, Bool.false_eq_true, Bool.true_eq_false, ↓cal_w (pe), pe]
      · simp (disch := omega) only [↓bnd_i, ↓cal_s, ↓cal_n, ↓cal2_s, ↓cal2_n, cal_s, cal2_s, ↓reduceIte, fa_lit, m1_lit, m2_lit, m1_lt, m2_lt, m1_eq, m2_eq, m1_le, m2_le, le_m1, le_m2, lt_m1, lt_m2, m12, m21, m1_m1, n_lt, n_le, n_eq, lt_t, lt_f, le_t, le_f, eq_t, eq_f, n_cl, inb_ok, n_add, pk_mul, pk_sub, n_rem, n_div, n_dec, n_mx, n_mn, eq_m1, eq_m2, ss_same, ss_ne, ss_r, ss_l, sr_f, sr_l, sr_same, sr_ne, sw_f, sw_l, sw_at, sw_ne, pk_us, pk_un, bI_t, bI_f, not_true_eq_false, not_false_eq_true, eq_self, and_true, true_and, and_false, false_and, or_true, true_or, or_false, false_or, decide_true, decide_false, Bool.false_eq_true, Bool.true_eq_false, ↓cal_w (pe), pe]
    · have hiL : i < L := by omega
      by_cases n4 : n = 401
      · refine ⟨_, n, ?_, dE_end hn hk (Or.inr n4), FrK.put⟩
        simp (disch := omega) only [↓bnd_i, ↓cal_s, ↓cal_n, ↓cal2_s, ↓cal2_n, cal_s, cal2_s, ↓reduceIte, fa_lit, m1_lit, m2_lit, m1_lt, m2_lt, m1_eq, m2_eq, m1_le, m2_le, le_m1, le_m2, lt_m1, lt_m2, m12, m21, m1_m1, n_lt, n_le, n_eq, lt_t, lt_f, le_t, le_f, eq_t, eq_f, n_cl, inb_ok, n_add, pk_mul, pk_sub, n_rem, n_div, n_dec, n_mx, n_mn, eq_m1, eq_m2, ss_same, ss_ne, ss_r, ss_l, sr_f, sr_l, sr_same, sr_ne, sw_f, sw_l, sw_at, sw_ne, pk_us, pk_un, bI_t, bI_f, not_true_eq_false, not_false_eq_true, eq_self, and_true, true_and, and_false, false_and, or_true, true_or, or_false, false_or, decide_true, decide_false, Bool.false_eq_true, Bool.true_eq_false, ↓cal_w (pe), pe, h19]
      · obtain ⟨x1, x2⟩ := T.2 i hiL
        have wb := d_isBlank (F := F) (σ := σ) x2
        cases c : isBl (b i)
        · rw [c] at wb
          have hqi : tq b L n = i := by rw [← hq]; unfold nx; exact re_n (Or.inr c)
          have we := d_endOfRun (F := F) hF T hiL
          have wk := d_kindOf (F := F) hF T hiL
          obtain ⟨t1, t2⟩ := tE_P (b := b) hiL
          have hkl : tK b L i ≤ 30 := by
            unfold tK wK sgK
            have : ∀ v m w, w + m = 20 → wkF v m w ≤ 30 := by
              intro v m
              induction m with
              | zero => intro w _; exact Nat.le_refl _
              | succ m ih => intro w hw; rw [wkF]; split; omega; exact ih (w + 1) (by omega)
            have := this (nvF (fun k => b (i + k)) (tE b L i - i)) 20 0 rfl
            repeat' split
            all_goals omega
          have fin : ∀ v, (tK b L i = 20 → v = tV b L i) → (tK b L i ≠ 20 → v = 0) → ∃ σ' e, f_X6_scan_107 F (f_X6_scan_18 F m) σ (nI L) (nI i) (nI s) (nI (tE b L i)) (nI (tK b L i)) (nI v) (nI (tK b L i)) = some σ' ∧ dE b L σ' e ∧ FrK σ σ' := by
            intro v v1 v2
            have hv : v = vV b L (tq b L n) := by
              rw [hqi]; unfold vV
              by_cases q : tK b L i = 20
              · rw [if_pos q]; exact v1 q
              · rw [if_neg q]; exact v2 q
            have pp := d_putT (F := F) h19 (by omega) (nI (tK b L i)) (nI v) (nI i)
            have fr : FrK σ (puT σ n (nI (tK b L i)) (nI v) (nI i)) := FrK.put
            obtain ⟨p0, p1, p2, p3⟩ := puT_r (σ := σ) (n := n) (x := nI (tK b L i)) (y := nI v) (z := nI i)
            have dn : dT b L (puT σ n (nI (tK b L i)) (nI v) (nI i)) n := by
              refine ⟨by omega, ?_, ?_, ?_⟩
              · rw [p1, pk_us, hqi]
              · rw [p2, pk_us, hv]
              · rw [p3, pk_us, hqi]
            unfold f_X6_scan_107
            by_cases k30 : tK b L i = 30
            · refine ⟨_, n, ?_, ⟨p0, hn, fun k h => ⟨dT_put h (hk k h).1, (hk k h).2⟩, Or.inl ⟨dn, by rw [hqi]; exact k30, by omega⟩⟩, fr⟩
              simp (disch := omega) only [↓bnd_i, ↓cal_s, ↓cal_n, ↓cal2_s, ↓cal2_n, cal_s, cal2_s, ↓reduceIte, fa_lit, m1_lit, m2_lit, m1_lt, m2_lt, m1_eq, m2_eq, m1_le, m2_le, le_m1, le_m2, lt_m1, lt_m2, m12, m21, m1_m1, n_lt, n_le, n_eq, lt_t, lt_f, le_t, le_f, eq_t, eq_f, n_cl, inb_ok, n_add, pk_mul, pk_sub, n_rem, n_div, n_dec, n_mx, n_mn, eq_m1, eq_m2, ss_same, ss_ne, ss_r, ss_l, sr_f, sr_l, sr_same, sr_ne, sw_f, sw_l, sw_at, sw_ne, pk_us, pk_un, bI_t, bI_f, not_true_eq_false, not_false_eq_true, eq_self, and_true, true_and, and_false, false_and, or_true, true_or, or_false, false_or, decide_true, decide_false, Bool.false_eq_true, Bool.true_eq_false, ↓cal_w (pp), pp]
            · obtain ⟨σ', e, g1, g2, g3⟩ := ih (tE b L i) (s + 1) (n + 1) _ (T.fr fr) t2 (by omega) (by omega) (by omega) p0 (by rw [tq_s (by omega), hqi]) (fun k h => by
                by_cases q : k = n
                · rw [q]; exact ⟨dn, by rw [hqi]; exact k30⟩
                · exact ⟨dT_put (by omega) (hk k (by omega)).1, (hk k (by omega)).2⟩)
              refine ⟨σ', e, ?_, g2, fr.trans g3⟩
              simp (disch := omega) only [↓bnd_i, ↓cal_s, ↓cal_n, ↓cal2_s, ↓cal2_n, cal_s, cal2_s, ↓reduceIte, fa_lit, m1_lit, m2_lit, m1_lt, m2_lt, m1_eq, m2_eq, m1_le, m2_le, le_m1, le_m2, lt_m1, lt_m2, m12, m21, m1_m1, n_lt, n_le, n_eq, lt_t, lt_f, le_t, le_f, eq_t, eq_f, n_cl, inb_ok, n_add, pk_mul, pk_sub, n_rem, n_div, n_dec, n_mx, n_mn, eq_m1, eq_m2, ss_same, ss_ne, ss_r, ss_l, sr_f, sr_l, sr_same, sr_ne, sw_f, sw_l, sw_at, sw_ne, pk_us, pk_un, bI_t, bI_f, not_true_eq_false, not_false_eq_true, eq_self, and_true, true_and, and_false, false_and, or_true, true_or, or_false, false_or, decide_true, decide_false, Bool.false_eq_true, Bool.true_eq_false, ↓cal_w (pp), pp, f_X6_scan_124]
              exact g1
          by_cases k20 : tK b L i = 20
          · have hd : isDg (b i) = true ∧ isLt (b i) = false ∧ tE b L i - i ≤ 4 := by
              unfold tK at k20
              cases q1 : isLt (b i)
              · rw [q1] at k20
                simp only [Bool.false_eq_true, if_false] at k20
                cases q2 : isDg (b i)
                · rw [q2] at k20
                  simp only [Bool.false_eq_true, if_false] at k20
                  unfold sgK at k20
                  exfalso
                  revert k20
                  repeat' split
                  all_goals omega
                · rw [q2] at k20
                  simp only [if_true] at k20
                  by_cases q3 : tE b L i - i ≤ 4
                  · exact ⟨rfl, rfl, q3⟩
                  · rw [if_neg q3] at k20; omega
              · rw [q1] at k20
                simp only [if_true] at k20
                exfalso
                have : ∀ v m w, w + m = 20 → wkF v m w ≠ 20 := by
                  intro v m
                  induction m with
                  | zero => intro w _; show (30 : Nat) ≠ 20; omega
                  | succ m ih => intro w hw; rw [wkF]; split; omega; exact ih (w + 1) (by omega)
                by_cases q3 : tE b L i - i ≤ 8
                · rw [if_pos q3] at k20; exact this _ 20 0 rfl k20
                · rw [if_neg q3] at k20; omega
            have wn := d_numberOf (F := F) hF T hiL hd.1 hd.2.1 hd.2.2
            obtain ⟨σ', e, g1, g2, g3⟩ := fin (tV b L i) (fun _ => rfl) (fun q => absurd k20 q)
            refine ⟨σ', e, ?_, g2, g3⟩
            rw [k20] at wk g1
            simp (disch := omega) only [↓bnd_i, ↓cal_s, ↓cal_n, ↓cal2_s, ↓cal2_n, cal_s, cal2_s, ↓reduceIte, fa_lit, m1_lit, m2_lit, m1_lt, m2_lt, m1_eq, m2_eq, m1_le, m2_le, le_m1, le_m2, lt_m1, lt_m2, m12, m21, m1_m1, n_lt, n_le, n_eq, lt_t, lt_f, le_t, le_f, eq_t, eq_f, n_cl, inb_ok, n_add, pk_mul, pk_sub, n_rem, n_div, n_dec, n_mx, n_mn, eq_m1, eq_m2, ss_same, ss_ne, ss_r, ss_l, sr_f, sr_l, sr_same, sr_ne, sw_f, sw_l, sw_at, sw_ne, pk_us, pk_un, bI_t, bI_f, not_true_eq_false, not_false_eq_true, eq_self, and_true, true_and, and_false, false_and, or_true, true_or, or_false, false_or, decide_true, decide_false, Bool.false_eq_true, Bool.true_eq_false, ↓cal_w (wb), wb, ↓cal_w (we), we, ↓cal_w (wk), wk, ↓cal_w (wn), wn, h19, x1]
            exact g1
          · obtain ⟨σ', e, g1, g2, g3⟩ := fin 0 (fun q => absurd q k20) (fun _ => rfl)
            refine ⟨σ', e, ?_, g2, g3⟩
            simp (disch := omega) only [↓bnd_i, ↓cal_s, ↓cal_n, ↓cal2_s, ↓cal2_n, cal_s, cal2_s, ↓reduceIte, fa_lit, m1_lit, m2_lit, m1_lt, m2_lt, m1_eq, m2_eq, m1_le, m2_le, le_m1, le_m2, lt_m1, lt_m2, m12, m21, m1_m1, n_lt, n_le, n_eq, lt_t, lt_f, le_t, le_f, eq_t, eq_f, n_cl, inb_ok, n_add, pk_mul, pk_sub, n_rem, n_div, n_dec, n_mx, n_mn, eq_m1, eq_m2, ss_same, ss_ne, ss_r, ss_l, sr_f, sr_l, sr_same, sr_ne, sw_f, sw_l, sw_at, sw_ne, pk_us, pk_un, bI_t, bI_f, not_true_eq_false, not_false_eq_true, eq_self, and_true, true_and, and_false, false_and, or_true, true_or, or_false, false_or, decide_true, decide_false, Bool.false_eq_true, Bool.true_eq_false, ↓cal_w (wb), wb, ↓cal_w (we), we, ↓cal_w (wk), wk, h19, x1]
            exact g1
        · rw [c] at wb
          obtain ⟨σ', e, g1, g2, g3⟩ := ih (i + 1) (s + 1) n σ T (by omega) (by omega) hn (by omega) h19 (by rw [← hq]; unfold nx; exact (re_s hiL c).symm) hk
          refine ⟨σ', e, ?_, g2, g3⟩
          simp (disch := omega) only [↓bnd_i, ↓cal_s, ↓cal_n, ↓cal2_s, ↓cal2_n, cal_s, cal2_s, ↓reduceIte, fa_lit, m1_lit, m2_lit, m1_lt, m2_lt, m1_eq, m2_eq, m1_le, m2_le, le_m1, le_m2, lt_m1, lt_m2, m12, m21, m1_m1, n_lt, n_le, n_eq, lt_t, lt_f, le_t, le_f, eq_t, eq_f, n_cl, inb_ok, n_add, pk_mul, pk_sub, n_rem, n_div, n_dec, n_mx, n_mn, eq_m1, eq_m2, ss_same, ss_ne, ss_r, ss_l, sr_f, sr_l, sr_same, sr_ne, sw_f, sw_l, sw_at, sw_ne, pk_us, pk_un, bI_t, bI_f, not_true_eq_false, not_false_eq_true, eq_self, and_true, true_and, and_false, false_and, or_true, true_or, or_false, false_or, decide_true, decide_false, Bool.false_eq_true, Bool.true_eq_false, ↓cal_w (wb), wb, h19, x1, f_X6_scan_124]
          exact g1
theorem d_scan {F : Nat} (hF : 2100 < F) {b : Nat → Nat} {L : Nat} {σ : St} (T : TxD b L σ) : ∃ σ' e, f_X6_scan F σ (nI L) = some σ' ∧ dE b L σ' e ∧ FrK σ σ' := by
  have f0 : FrK σ (ss σ 19 (nI 0)) := ⟨fun k h => ss_ne h, fun _ _ => rfl, rfl⟩
  have hL := T.1
  obtain ⟨σ', e, g1, g2, g3⟩ := d_scanL (F := F) hF (b := b) (L := L) F 0 0 0 (ss σ 19 (nI 0)) (T.fr f0) (by omega) (by omega) (by omega) (by omega) ss_same rfl (fun k h => by omega)
  refine ⟨σ', e, ?_, g2, f0.trans g3⟩
  unfold f_X6_scan
  simp (disch := omega) only [↓bnd_i, ↓cal_s, ↓cal_n, ↓cal2_s, ↓cal2_n, cal_s, cal2_s, ↓reduceIte, fa_lit, m1_lit, m2_lit, m1_lt, m2_lt, m1_eq, m2_eq, m1_le, m2_le, le_m1, le_m2, lt_m1, lt_m2, m12, m21, m1_m1, n_lt, n_le, n_eq, lt_t, lt_f, le_t, le_f, eq_t, eq_f, n_cl, inb_ok, n_add, pk_mul, pk_sub, n_rem, n_div, n_dec, n_mx, n_mn, eq_m1, eq_m2, ss_same, ss_ne, ss_r, ss_l, sr_f, sr_l, sr_same, sr_ne, sw_f, sw_l, sw_at, sw_ne, pk_us, pk_un, bI_t, bI_f, not_true_eq_false, not_false_eq_true, eq_self, and_true, true_and, and_false, false_and, or_true, true_or, or_false, false_or, decide_true, decide_false, Bool.false_eq_true, Bool.true_eq_false, Nat.min_eq_left hL]
  exact g1
