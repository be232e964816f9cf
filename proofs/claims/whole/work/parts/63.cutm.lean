/-! PURE: the model's cutsUp -/
def mkOf (k : Nat) : Nat := if k < 20 then 20 + k else if k = 20 then 2 else if k = 21 then 4 else if k = 22 then 8 else if k = 23 then 9 else if k = 24 then 10 else if k = 25 then 15 else if k = 26 then 16 else if k = 27 then 6 else if k = 28 then 7 else if k = 29 then 0 else 3
def sgM (c : Nat) : Nat := if c = 59 then 4 else if c = 43 then 8 else if c = 45 then 9 else if c = 42 then 10 else if c = 47 then 15 else if c = 37 then 16 else if c = 40 then 6 else if c = 41 then 7 else 3
def wkG (v : Nat) : Nat → Nat
  | 0 => 1
  | w + 1 => if kyN.getD w 0 = v then 20 + w else wkG v w
def mM (b : Nat → Nat) (L i : Nat) : Nat := if isLt (b i) then (if tE b L i - i ≤ 8 then wkG (nvF (fun k => b (i + k)) (tE b L i - i)) 20 else 3) else if isDg (b i) then (if tE b L i - i ≤ 4 then 2 else 3) else sgM (b i)
theorem wk_t {v w0 : Nat} (h0 : w0 < 20) (e : kyN.getD w0 0 = v) : wK v = w0 ∧ wkG v 20 = 20 + w0 := by
  constructor
  · have key : ∀ m w, w + m = 20 → w ≤ w0 → wkF v m w = w0 := by
      intro m
      induction m with
      | zero => intro w h1 h2; omega
      | succ m ih =>
        intro w h1 h2
        rw [wkF]
        by_cases d : kyN.getD w 0 = v
        · rw [if_pos d]; exact ky_inj w (by omega) w0 h0 (d.trans e.symm)
        · rw [if_neg d]
          refine ih (w + 1) (by omega) ?_
          rcases Nat.eq_or_lt_of_le h2 with q | q
          · rw [q] at d; exact absurd e d
          · exact q
    exact key 20 0 rfl (Nat.zero_le _)
  · have key : ∀ w, w0 < w → w ≤ 20 → wkG v w = 20 + w0 := by
      intro w
      induction w with
      | zero => intro h; omega
      | succ w ih =>
        intro h1 h2
        rw [wkG]
        by_cases d : kyN.getD w 0 = v
        · rw [if_pos d, ky_inj w (by omega) w0 h0 (d.trans e.symm)]
        · rw [if_neg d]
          refine ih ?_ (by omega)
          rcases Nat.eq_or_lt_of_le (Nat.le_of_lt_succ h1) with q | q
          · rw [← q] at d; exact absurd e d
          · exact q
    exact key 20 h0 (Nat.le_refl _)
theorem wk_n {v : Nat} (h : ∀ w, w < 20 → kyN.getD w 0 ≠ v) : wK v = 30 ∧ wkG v 20 = 1 := by
  constructor
  · have key : ∀ m w, w + m = 20 → wkF v m w = 30 := by
      intro m
      induction m with
      | zero => intro w _; rfl
      | succ m ih =>
        intro w h1
        rw [wkF, if_neg (h w (by omega))]
        exact ih (w + 1) (by omega)
    exact key 20 0 rfl
  · have key : ∀ w, w ≤ 20 → wkG v w = 1 := by
      intro w
      induction w with
      | zero => intro _; rfl
      | succ w ih =>
        intro h1
        rw [wkG, if_neg (h w (by omega))]
        exact ih (by omega)
    exact key 20 (Nat.le_refl _)
theorem mM_K {b : Nat → Nat} {L i : Nat} : (tK b L i ≠ 30 → mM b L i = mkOf (tK b L i) ∧ tK b L i ≤ 28) ∧ (tK b L i = 30 → mM b L i = 1 ∨ mM b L i = 3) := by
  unfold tK mM
  cases isLt (b i)
  · simp only [Bool.false_eq_true, if_false]
    cases isDg (b i)
    · simp only [Bool.false_eq_true, if_false]
      unfold sgK sgM
      by_cases h1 : b i = 59
      · simp [h1, mkOf]
      · by_cases h2 : b i = 43
        · simp [h2, mkOf]
        · by_cases h3 : b i = 45
          · simp [h3, mkOf]
          · by_cases h4 : b i = 42
            · simp [h4, mkOf]
            · by_cases h5 : b i = 47
              · simp [h5, mkOf]
              · by_cases h6 : b i = 37
                · simp [h6, mkOf]
                · by_cases h7 : b i = 40
                  · simp [h7, mkOf]
                  · by_cases h8 : b i = 41
                    · simp [h8, mkOf]
                    · simp [h1, h2, h3, h4, h5, h6, h7, h8]
    · simp only [if_true]
      by_cases c : tE b L i - i ≤ 4
      · simp [c, mkOf]
      · simp [c]
  · simp only [if_true]
    by_cases c : tE b L i - i ≤ 8
    · simp only [c, if_true]
      generalize nvF (fun k => b (i + k)) (tE b L i - i) = v
      by_cases d : ∃ w, w < 20 ∧ kyN.getD w 0 = v
      · obtain ⟨w, h0, e⟩ := d
        obtain ⟨q1, q2⟩ := wk_t h0 e
        rw [q1, q2]
        refine ⟨fun _ => ⟨?_, by omega⟩, fun q => by omega⟩
        unfold mkOf
        rw [if_pos h0]
      · obtain ⟨q1, q2⟩ := wk_n (v := v) (fun w hw e => d ⟨w, hw, e⟩)
        rw [q1, q2]
        exact ⟨fun q => absurd rfl q, fun _ => Or.inl rfl⟩
    · simp [c]
def TxM (b : Nat → Nat) (L : Nat) (τ : St) : Prop := L ≤ 2000 ∧ τ.1 2 = nI L ∧ (∀ i, i < L → τ.2.1 2 i &&& nI 255 = nI (b i) ∧ b i < 256) ∧ ∀ i, i < 20 → τ.2.2 7 i = lN (kyN.getD i 0)
def FmK (σ σ' : St) : Prop := (∀ k, k ≠ 3 → σ'.1 k = σ.1 k) ∧ (∀ r, r < 3 ∨ 5 < r → σ'.2.1 r = σ.2.1 r) ∧ σ'.2.2 7 = σ.2.2 7
theorem FmK.trans {a b c : St} (h : FmK a b) (k : FmK b c) : FmK a c := ⟨fun i h1 => (k.1 i h1).trans (h.1 i h1), fun i hi => (k.2.1 i hi).trans (h.2.1 i hi), k.2.2.trans h.2.2⟩
theorem TxM.fr {b : Nat → Nat} {L : Nat} {σ σ' : St} (T : TxM b L σ) (f : FmK σ σ') : TxM b L σ' := ⟨T.1, by rw [f.1 2 (by omega)]; exact T.2.1, fun i hi => by rw [f.2.1 2 (by omega)]; exact T.2.2.1 i hi, fun i hi => by rw [f.2.2]; exact T.2.2.2 i hi⟩
theorem t_byteAt {F : Nat} {b : Nat → Nat} {L : Nat} {τ : St} (T : TxM b L τ) {i : Nat} (hi : i < 2 ^ 31) : f_X8_byteAt F τ (nI i) = some (nI (if i < L then b i else 0)) := by
  obtain ⟨hL, h2, hb, -⟩ := T
  unfold f_X8_byteAt
  by_cases c : i < L
  · obtain ⟨x1, x2⟩ := hb i c
    rw [if_pos c]
    simp (disch := omega) only [↓bnd_i, ↓cal_s, ↓cal_n, ↓cal2_s, ↓cal2_n, cal_s, cal2_s, ↓reduceIte, fa_lit, m1_lit, m2_lit, m1_lt, m2_lt, m1_eq, m2_eq, m1_le, m2_le, le_m1, le_m2, lt_m1, lt_m2, m12, m21, m1_m1, n_lt, n_le, n_eq, lt_t, lt_f, le_t, le_f, eq_t, eq_f, n_cl, inb_ok, n_add, pk_mul, pk_sub, n_rem, n_div, n_dec, n_mx, n_mn, eq_m1, eq_m2, ss_same, ss_ne, ss_r, ss_l, sr_f, sr_l, sr_same, sr_ne, sw_f, sw_l, sw_at, sw_ne, pk_us, pk_un, bI_t, bI_f, not_true_eq_false, not_false_eq_true, eq_self, and_true, true_and, and_false, false_and, or_true, true_or, or_false, false_or, decide_true, decide_false, Bool.false_eq_true, Bool.true_eq_false, h2, x1]
  · rw [if_neg c]
    simp (disch := omega) only [↓bnd_i, ↓cal_s, ↓cal_n, ↓cal2_s, ↓cal2_n, cal_s, cal2_s, ↓reduceIte, fa_lit, m1_lit, m2_lit, m1_lt, m2_lt, m1_eq, m2_eq, m1_le, m2_le, le_m1, le_m2, lt_m1, lt_m2, m12, m21, m1_m1, n_lt, n_le, n_eq, lt_t, lt_f, le_t, le_f, eq_t, eq_f, n_cl, inb_ok, n_add, pk_mul, pk_sub, n_rem, n_div, n_dec, n_mx, n_mn, eq_m1, eq_m2, ss_same, ss_ne, ss_r, ss_l, sr_f, sr_l, sr_same, sr_ne, sw_f, sw_l, sw_at, sw_ne, pk_us, pk_un, bI_t, bI_f, not_true_eq_false, not_false_eq_true, eq_self, and_true, true_and, and_false, false_and, or_true, true_or, or_false, false_or, decide_true, decide_false, Bool.false_eq_true, Bool.true_eq_false, h2]
theorem t_isLetter {F : Nat} {σ : St} {c : Nat} (h : c < 256) : f_X8_isLetter F σ (nI c) = some (bI (isLt c)) := d_isLetter (F := F) (σ := σ) h
theorem t_isDigit {F : Nat} {σ : St} {c : Nat} (h : c < 256) : f_X8_isDigit F σ (nI c) = some (bI (isDg c)) := d_isDigit (F := F) (σ := σ) h
def tkM (τ : St) (n : Nat) (x y z : Int32) (w : Int64) : St := ss (sl (sr (sr (sr τ 3 n x) 4 n y) 5 n z) 6 n w) 3 (nI (n + 1))
theorem sl_f {σ : St} {a i : Nat} {v : Int64} : (sl σ a i v).1 = σ.1 := rfl
theorem sl_r {σ : St} {a i : Nat} {v : Int64} : (sl σ a i v).2.1 = σ.2.1 := rfl
theorem sl_ne {σ : St} {a b i : Nat} {v : Int64} (h : b ≠ a) : (sl σ a i v).2.2 b = σ.2.2 b := by simp [sl, h]
theorem t_token {F : Nat} {τ : St} {n : Nat} (h : τ.1 3 = nI n) (hn : n < 403) (x y z : Int32) (w : Int64) : f_X8_token F τ x y z w = some (tkM τ n x y z w) := by
  unfold f_X8_token tkM
  simp (disch := omega) only [↓bnd_i, ↓cal_s, ↓cal_n, ↓cal2_s, ↓cal2_n, cal_s, cal2_s, ↓reduceIte, fa_lit, m1_lit, m2_lit, m1_lt, m2_lt, m1_eq, m2_eq, m1_le, m2_le, le_m1, le_m2, lt_m1, lt_m2, m12, m21, m1_m1, n_lt, n_le, n_eq, lt_t, lt_f, le_t, le_f, eq_t, eq_f, n_cl, inb_ok, n_add, pk_mul, pk_sub, n_rem, n_div, n_dec, n_mx, n_mn, eq_m1, eq_m2, ss_same, ss_ne, ss_r, ss_l, sr_f, sr_l, sr_same, sr_ne, sw_f, sw_l, sw_at, sw_ne, pk_us, pk_un, bI_t, bI_f, not_true_eq_false, not_false_eq_true, eq_self, and_true, true_and, and_false, false_and, or_true, true_or, or_false, false_or, decide_true, decide_false, Bool.false_eq_true, Bool.true_eq_false, h, sl_f]
theorem FmK.tk {τ : St} {n : Nat} {x y z : Int32} {w : Int64} : FmK τ (tkM τ n x y z w) := ⟨fun k h => by unfold tkM; rw [ss_ne h, sl_f, sr_f, sr_f, sr_f], fun r hr => by unfold tkM; rw [ss_r, sl_r, sr_ne (by omega), sr_ne (by omega), sr_ne (by omega)], by unfold tkM; rw [ss_l, sl_ne (by omega), sr_l, sr_l, sr_l]⟩
theorem tkM_r {τ : St} {n : Nat} {x y z : Int32} {w : Int64} : (tkM τ n x y z w).1 3 = nI (n + 1) ∧ (tkM τ n x y z w).2.1 3 = upd (τ.2.1 3) n x ∧ (tkM τ n x y z w).2.1 4 = upd (τ.2.1 4) n y ∧ (tkM τ n x y z w).2.1 5 = upd (τ.2.1 5) n z := by
  unfold tkM
  refine ⟨ss_same, ?_, ?_, ?_⟩
  · rw [ss_r, sl_r, sr_ne (by omega), sr_ne (by omega), sr_same]
  · rw [ss_r, sl_r, sr_ne (by omega), sr_same, sr_ne (by omega)]
  · rw [ss_r, sl_r, sr_same, sr_ne (by omega), sr_ne (by omega)]
/-- what the model's token is -/
def mT' (b : Nat → Nat) (L : Nat) (τ : St) (k : Nat) : Prop := (tq b L k < L → τ.2.1 3 k = nI (mM b L (tq b L k)) ∧ τ.2.1 4 k = nI (tq b L k) ∧ (tK b L (tq b L k) = 20 → τ.2.1 5 k = nI (tV b L (tq b L k)))) ∧ (tq b L k = L → τ.2.1 3 k = nI 0 ∧ τ.2.1 4 k = nI L)
theorem mT_put {b : Nat → Nat} {L : Nat} {τ : St} {n k : Nat} {x y z : Int32} {w : Int64} (h : k < n) (d : mT' b L τ k) : mT' b L (tkM τ n x y z w) k := by
  obtain ⟨-, p1, p2, p3⟩ := tkM_r (τ := τ) (n := n) (x := x) (y := y) (z := z) (w := w)
  unfold mT' at *
  rw [p1, p2, p3, pk_un (by omega), pk_un (by omega), pk_un (by omega)]
  exact d
theorem lgc (x y : Int64) : (lg_cmp x y = nI 0) = (x = y) := by
  unfold lg_cmp
  by_cases h : x = y
  · subst h
    have : ¬ x > x := Int64.lt_irrefl
    rw [if_neg this, if_pos rfl]
    exact propext ⟨fun _ => rfl, fun _ => rfl⟩
  · by_cases g : x > y
    · rw [if_pos g]
      exact propext ⟨fun q => absurd q (by decide), fun q => absurd q h⟩
    · rw [if_neg g, if_neg h]
      exact propext ⟨fun q => absurd q (by decide), fun q => absurd q h⟩
theorem nvF_lt {a : Nat → Nat} : ∀ m, (∀ k, k < m → a k ≤ 122) → nvF a m < 27 ^ m
  | 0, _ => by simp [nvF]
  | m + 1, h => by
    have := nvF_lt m (fun k hk => h k (by omega))
    have := h m (by omega)
    rw [nvF, Nat.pow_succ]
    omega
theorem t_appends {F : Nat} {τ : St} {v c : Nat} (hc : 97 ≤ c ∧ c ≤ 122) : f_X8_appends F τ (lN v) (nI c) = some (lN (27 * v + (c - 96))) := by
  unfold f_X8_appends
  have e : (nI c - nI 97) + nI 1 = nI (c - 96) := by rw [pk_sub hc.1, n_add]; congr 1; omega
  simp (disch := omega) only [↓bnd_i, ↓cal_s, ↓cal_n, ↓cal2_s, ↓cal2_n, cal_s, cal2_s, ↓reduceIte, fa_lit, m1_lit, m2_lit, m1_lt, m2_lt, m1_eq, m2_eq, m1_le, m2_le, le_m1, le_m2, lt_m1, lt_m2, m12, m21, m1_m1, n_lt, n_le, n_eq, lt_t, lt_f, le_t, le_f, eq_t, eq_f, n_cl, inb_ok, n_add, pk_mul, pk_sub, n_rem, n_div, n_dec, n_mx, n_mn, eq_m1, eq_m2, ss_same, ss_ne, ss_r, ss_l, sr_f, sr_l, sr_same, sr_ne, sw_f, sw_l, sw_at, sw_ne, pk_us, pk_un, bI_t, bI_f, not_true_eq_false, not_false_eq_true, eq_self, and_true, true_and, and_false, false_and, or_true, true_or, or_false, false_or, decide_true, decide_false, Bool.false_eq_true, Bool.true_eq_false]
  rw [show nI (c - 97 + 1) = nI (c - 96) by congr 1; omega, nI_l (by omega), show (27 : Int64) = lN 27 from rfl, lN_mul, lN_add]
/-- the words of a model's run of letters -/
theorem t_cut146 {F : Nat} {b : Nat → Nat} {L : Nat} {τ : St} (T : TxM b L τ) (K : St → Int32 → Option St) {i len v : Nat} (hv : v < 2 ^ 62) : ∀ m n w, w + m = 20 → m < n → f_X8_cutsUp_146 F K n τ (nI i) (nI len) (lN v) (nI (wkG v w)) (nI w) = f_X8_cutsUp_179 F K τ (nI i) (nI len) (lN v) (nI (wkG v 20)) := by
  intro m
  induction m with
  | zero =>
    intro n w hw hn
    obtain ⟨n, rfl⟩ : ∃ k, n = k + 1 := ⟨n - 1, by omega⟩
    rw [f_X8_cutsUp_146, show w = 20 by omega]
    simp (disch := omega) only [↓bnd_i, ↓cal_s, ↓cal_n, ↓cal2_s, ↓cal2_n, cal_s, cal2_s, ↓reduceIte, fa_lit, m1_lit, m2_lit, m1_lt, m2_lt, m1_eq, m2_eq, m1_le, m2_le, le_m1, le_m2, lt_m1, lt_m2, m12, m21, m1_m1, n_lt, n_le, n_eq, lt_t, lt_f, le_t, le_f, eq_t, eq_f, n_cl, inb_ok, n_add, pk_mul, pk_sub, n_rem, n_div, n_dec, n_mx, n_mn, eq_m1, eq_m2, ss_same, ss_ne, ss_r, ss_l, sr_f, sr_l, sr_same, sr_ne, sw_f, sw_l, sw_at, sw_ne, pk_us, pk_un, bI_t, bI_f, not_true_eq_false, not_false_eq_true, eq_self, and_true, true_and, and_false, false_and, or_true, true_or, or_false, false_or, decide_true, decide_false, Bool.false_eq_true, Bool.true_eq_false]
  | succ m ih =>
    intro n w hw hn
    obtain ⟨n, rfl⟩ : ∃ k, n = k + 1 := ⟨n - 1, by omega⟩
    have ih' := ih n (w + 1) (by omega) (by omega)
    have hk := T.2.2.2 w (by omega)
    have hl := ky_lt w (by omega)
    rw [f_X8_cutsUp_146]
    rw [wkG] at ih'
    by_cases d : kyN.getD w 0 = v
    · rw [if_pos d] at ih'
      simp (disch := omega) only [↓bnd_i, ↓cal_s, ↓cal_n, ↓cal2_s, ↓cal2_n, cal_s, cal2_s, ↓reduceIte, fa_lit, m1_lit, m2_lit, m1_lt, m2_lt, m1_eq, m2_eq, m1_le, m2_le, le_m1, le_m2, lt_m1, lt_m2, m12, m21, m1_m1, n_lt, n_le, n_eq, lt_t, lt_f, le_t, le_f, eq_t, eq_f, n_cl, inb_ok, n_add, pk_mul, pk_sub, n_rem, n_div, n_dec, n_mx, n_mn, eq_m1, eq_m2, ss_same, ss_ne, ss_r, ss_l, sr_f, sr_l, sr_same, sr_ne, sw_f, sw_l, sw_at, sw_ne, pk_us, pk_un, bI_t, bI_f, not_true_eq_false, not_false_eq_true, eq_self, and_true, true_and, and_false, false_and, or_true, true_or, or_false, false_or, decide_true, decide_false, Bool.false_eq_true, Bool.true_eq_false, hk, lgc, d, f_X8_cutsUp_173]
      exact ih'
    · rw [if_neg d] at ih'
      have ne : ¬ (lN (kyN.getD w 0) = lN v) := fun q => d ((fb_lN_inj (by omega) (by omega)).mp q)
      simp (disch := omega) only [↓bnd_i, ↓cal_s, ↓cal_n, ↓cal2_s, ↓cal2_n, cal_s, cal2_s, ↓reduceIte, fa_lit, m1_lit, m2_lit, m1_lt, m2_lt, m1_eq, m2_eq, m1_le, m2_le, le_m1, le_m2, lt_m1, lt_m2, m12, m21, m1_m1, n_lt, n_le, n_eq, lt_t, lt_f, le_t, le_f, eq_t, eq_f, n_cl, inb_ok, n_add, pk_mul, pk_sub, n_rem, n_div, n_dec, n_mx, n_mn, eq_m1, eq_m2, ss_same, ss_ne, ss_r, ss_l, sr_f, sr_l, sr_same, sr_ne, sw_f, sw_l, sw_at, sw_ne, pk_us, pk_un, bI_t, bI_f, not_true_eq_false, not_false_eq_true, eq_self, and_true, true_and, and_false, false_and, or_true, true_or, or_false, false_or, decide_true, decide_false, Bool.false_eq_true, Bool.true_eq_false, hk, lgc, eq_false ne, f_X8_cutsUp_173]
      exact ih'
theorem t_cut85 {F : Nat} (hF : 2100 < F) {b : Nat → Nat} {L : Nat} {τ : St} (T : TxM b L τ) (K : St → Int32 → Option St) {i : Nat} (hi : i < L) (hl : isLt (b i) = true) : ∃ w, f_X8_cutsUp_85 F K F τ (nI i) (nI 0) (lN 0) = cal (f_X8_token F τ (nI (mM b L i)) (nI i) (nI 0) w) (fun t1 => K t1 (nI (tE b L i))) := by
  have hL := T.1
  obtain ⟨t1, t2⟩ := tE_P (b := b) hi
  have ee : tE b L i = re b L isLt i := by unfold tE; rw [hl]; rfl
  have r := re_P (b := b) (P := isLt) (i := i) (L := L) (by omega)
  have hlt : ∀ k, k < tE b L i - i → 97 ≤ b (i + k) ∧ b (i + k) ≤ 122 := fun k hk => of_decide_eq_true (r.2.2.1 (i + k) (by omega) (by omega))
  refine ⟨lN (nvF (fun k => b (i + k)) (min (tE b L i - i) 8)), ?_⟩
  have key : ∀ n k, k ≤ tE b L i - i → tE b L i - i - k < n → f_X8_cutsUp_85 F K n τ (nI i) (nI k) (lN (nvF (fun k => b (i + k)) (min k 8))) = cal (f_X8_token F τ (nI (mM b L i)) (nI i) (nI 0) (lN (nvF (fun k => b (i + k)) (min (tE b L i - i) 8)))) (fun t1 => K t1 (nI (tE b L i))) := by
    intro n
    induction n with
    | zero => intro k _ h; omega
    | succ n ih =>
      intro k hk hn
      have wb := t_byteAt (F := F) T (i := i + k) (by omega)
      rw [f_X8_cutsUp_85]
      by_cases e : k = tE b L i - i
      · have hz : isLt (if i + k < L then b (i + k) else 0) = false := by
          by_cases q : i + k < L
          · rw [if_pos q, show i + k = re b L isLt i by omega]
            exact r.2.2.2 (by omega)
          · rw [if_neg q]; rfl
        have hc : (if i + k < L then b (i + k) else 0) < 256 := by
          by_cases q : i + k < L
          · rw [if_pos q]; exact (T.2.2.1 _ q).2
          · rw [if_neg q]; omega
        have wl := t_isLetter (F := F) (σ := τ) hc
        rw [hz] at wl
        generalize hv : nvF (fun k => b (i + k)) (min k 8) = v
        have hv2 : v < 2 ^ 62 := by
          have h1 := nvF_lt (a := fun k => b (i + k)) (min k 8) (fun x hx => (hlt x (by omega)).2)
          have h2 : (27 : Nat) ^ (min k 8) ≤ 27 ^ 8 := Nat.pow_le_pow_right (by omega) (by omega)
          omega
        by_cases c8 : k ≤ 8
        · have w146 := t_cut146 (F := F) T K (i := i) (len := k) (v := v) hv2 20 F 0 rfl (by omega)
          have hm : mM b L i = wkG v 20 := by
            unfold mM
            rw [hl, if_pos rfl, if_pos (by omega), ← hv, Nat.min_eq_left c8, e]
          have w146' : f_X8_cutsUp_146 F K F τ (nI i) (nI k) (lN v) (nI 1) (nI 0) = _ := w146
          simp (disch := omega) only [↓bnd_i, ↓cal_s, ↓cal_n, ↓cal2_s, ↓cal2_n, cal_s, cal2_s, ↓reduceIte, fa_lit, m1_lit, m2_lit, m1_lt, m2_lt, m1_eq, m2_eq, m1_le, m2_le, le_m1, le_m2, lt_m1, lt_m2, m12, m21, m1_m1, n_lt, n_le, n_eq, lt_t, lt_f, le_t, le_f, eq_t, eq_f, n_cl, inb_ok, n_add, pk_mul, pk_sub, n_rem, n_div, n_dec, n_mx, n_mn, eq_m1, eq_m2, ss_same, ss_ne, ss_r, ss_l, sr_f, sr_l, sr_same, sr_ne, sw_f, sw_l, sw_at, sw_ne, pk_us, pk_un, bI_t, bI_f, not_true_eq_false, not_false_eq_true, eq_self, and_true, true_and, and_false, false_and, or_true, true_or, or_false, false_or, decide_true, decide_false, Bool.false_eq_true, Bool.true_eq_false, ↓cal_w (wb), wb, ↓cal_w (wl), wl, f_X8_cutsUp_135]
          rw [w146', hm]
          unfold f_X8_cutsUp_179 f_X8_cutsUp_291
          simp (disch := omega) only [↓bnd_i, ↓cal_s, ↓cal_n, ↓cal2_s, ↓cal2_n, cal_s, cal2_s, ↓reduceIte, fa_lit, m1_lit, m2_lit, m1_lt, m2_lt, m1_eq, m2_eq, m1_le, m2_le, le_m1, le_m2, lt_m1, lt_m2, m12, m21, m1_m1, n_lt, n_le, n_eq, lt_t, lt_f, le_t, le_f, eq_t, eq_f, n_cl, inb_ok, n_add, pk_mul, pk_sub, n_rem, n_div, n_dec, n_mx, n_mn, eq_m1, eq_m2, ss_same, ss_ne, ss_r, ss_l, sr_f, sr_l, sr_same, sr_ne, sw_f, sw_l, sw_at, sw_ne, pk_us, pk_un, bI_t, bI_f, not_true_eq_false, not_false_eq_true, eq_self, and_true, true_and, and_false, false_and, or_true, true_or, or_false, false_or, decide_true, decide_false, Bool.false_eq_true, Bool.true_eq_false]
          rw [← e, hv, show i + k = tE b L i by omega]
        · have hm : mM b L i = 3 := by
            unfold mM
            rw [hl, if_pos rfl, if_neg (by omega)]
          rw [hm]
          simp (disch := omega) only [↓bnd_i, ↓cal_s, ↓cal_n, ↓cal2_s, ↓cal2_n, cal_s, cal2_s, ↓reduceIte, fa_lit, m1_lit, m2_lit, m1_lt, m2_lt, m1_eq, m2_eq, m1_le, m2_le, le_m1, le_m2, lt_m1, lt_m2, m12, m21, m1_m1, n_lt, n_le, n_eq, lt_t, lt_f, le_t, le_f, eq_t, eq_f, n_cl, inb_ok, n_add, pk_mul, pk_sub, n_rem, n_div, n_dec, n_mx, n_mn, eq_m1, eq_m2, ss_same, ss_ne, ss_r, ss_l, sr_f, sr_l, sr_same, sr_ne, sw_f, sw_l, sw_at, sw_ne, pk_us, pk_un, bI_t, bI_f, not_true_eq_false, not_false_eq_true, eq_self, and_true, true_and, and_false, false_and, or_true, true_or, or_false, false_or, decide_true, decide_false, Bool.false_eq_true, Bool.true_eq_false, ↓cal_w (wb), wb, ↓cal_w (wl), wl, f_X8_cutsUp_135, f_X8_cutsUp_179, f_X8_cutsUp_291]
          rw [← e, hv, show i + k = tE b L i by omega]
      · have ih' := ih (k + 1) (by omega) (by omega)
        rw [if_pos (show i + k < L by omega)] at wb
        have hk' := hlt k (by omega)
        have wl := t_isLetter (F := F) (σ := τ) (c := b (i + k)) (by omega)
        rw [show isLt (b (i + k)) = true from decide_eq_true hk'] at wl
        by_cases c8 : 8 ≤ k
        · rw [show min (k + 1) 8 = min k 8 by omega] at ih'
          simp (disch := omega) only [↓bnd_i, ↓cal_s, ↓cal_n, ↓cal2_s, ↓cal2_n, cal_s, cal2_s, ↓reduceIte, fa_lit, m1_lit, m2_lit, m1_lt, m2_lt, m1_eq, m2_eq, m1_le, m2_le, le_m1, le_m2, lt_m1, lt_m2, m12, m21, m1_m1, n_lt, n_le, n_eq, lt_t, lt_f, le_t, le_f, eq_t, eq_f, n_cl, inb_ok, n_add, pk_mul, pk_sub, n_rem, n_div, n_dec, n_mx, n_mn, eq_m1, eq_m2, ss_same, ss_ne, ss_r, ss_l, sr_f, sr_l, sr_same, sr_ne, sw_f, sw_l, sw_at, sw_ne, pk_us, pk_un, bI_t, bI_f, not_true_eq_false, not_false_eq_true, eq_self, and_true, true_and, and_false, false_and, or_true, true_or, or_false, false_or, decide_true, decide_false, Bool.false_eq_true, Bool.true_eq_false, ↓cal_w (wb), wb, ↓cal_w (wl), wl, f_X8_cutsUp_118]
          exact ih'
        · rw [show min (k + 1) 8 = min k 8 + 1 by omega, nvF, show min k 8 = k by omega] at ih'
          have wa := t_appends (F := F) (τ := τ) (v := nvF (fun k => b (i + k)) k) hk'
          rw [show min k 8 = k by omega]
          simp (disch := omega) only [↓bnd_i, ↓cal_s, ↓cal_n, ↓cal2_s, ↓cal2_n, cal_s, cal2_s, ↓reduceIte, fa_lit, m1_lit, m2_lit, m1_lt, m2_lt, m1_eq, m2_eq, m1_le, m2_le, le_m1, le_m2, lt_m1, lt_m2, m12, m21, m1_m1, n_lt, n_le, n_eq, lt_t, lt_f, le_t, le_f, eq_t, eq_f, n_cl, inb_ok, n_add, pk_mul, pk_sub, n_rem, n_div, n_dec, n_mx, n_mn, eq_m1, eq_m2, ss_same, ss_ne, ss_r, ss_l, sr_f, sr_l, sr_same, sr_ne, sw_f, sw_l, sw_at, sw_ne, pk_us, pk_un, bI_t, bI_f, not_true_eq_false, not_false_eq_true, eq_self, and_true, true_and, and_false, false_and, or_true, true_or, or_false, false_or, decide_true, decide_false, Bool.false_eq_true, Bool.true_eq_false, ↓cal_w (wb), wb, ↓cal_w (wl), wl, ↓cal_w (wa), wa, f_X8_cutsUp_118]
          exact ih'
  exact key F 0 (by omega) (by omega)
theorem t_cut208 {F : Nat} (hF : 2100 < F) {b : Nat → Nat} {L : Nat} {τ : St} (T : TxM b L τ) (K : St → Int32 → Option St) {i : Nat} (hi : i < L) (hl : isLt (b i) = false) (hd : isDg (b i) = true) : ∃ v, (tK b L i = 20 → v = tV b L i) ∧ f_X8_cutsUp_208 F K F τ (nI i) (nI 0) (nI 0) = cal (f_X8_token F τ (nI (mM b L i)) (nI i) (nI v) (0 : Int64)) (fun t1 => K t1 (nI (tE b L i))) := by
  have hL := T.1
  obtain ⟨t1, t2⟩ := tE_P (b := b) hi
  have ee : tE b L i = re b L isDg i := by unfold tE; rw [hl, hd]; rfl
  have r := re_P (b := b) (P := isDg) (i := i) (L := L) (by omega)
  have hdg : ∀ k, k < tE b L i - i → 48 ≤ b (i + k) ∧ b (i + k) ≤ 57 := fun k hk => of_decide_eq_true (r.2.2.1 (i + k) (by omega) (by omega))
  refine ⟨nmF (fun k => b (i + k)) (min (tE b L i - i) 4), fun q => ?_, ?_⟩
  · have : tE b L i - i ≤ 4 := by
      unfold tK at q
      rw [hl, hd] at q
      simp only [Bool.false_eq_true, if_false, if_true] at q
      by_cases c : tE b L i - i ≤ 4
      · exact c
      · rw [if_neg c] at q; omega
    rw [Nat.min_eq_left this]
    rfl
  have key : ∀ n k, k ≤ tE b L i - i → tE b L i - i - k < n → f_X8_cutsUp_208 F K n τ (nI i) (nI k) (nI (nmF (fun k => b (i + k)) (min k 4))) = cal (f_X8_token F τ (nI (mM b L i)) (nI i) (nI (nmF (fun k => b (i + k)) (min (tE b L i - i) 4))) (0 : Int64)) (fun t1 => K t1 (nI (tE b L i))) := by
    intro n
    induction n with
    | zero => intro k _ h; omega
    | succ n ih =>
      intro k hk hn
      have wb := t_byteAt (F := F) T (i := i + k) (by omega)
      rw [f_X8_cutsUp_208]
      by_cases e : k = tE b L i - i
      · have hz : isDg (if i + k < L then b (i + k) else 0) = false := by
          by_cases q : i + k < L
          · rw [if_pos q, show i + k = re b L isDg i by omega]
            exact r.2.2.2 (by omega)
          · rw [if_neg q]; rfl
        have hc : (if i + k < L then b (i + k) else 0) < 256 := by
          by_cases q : i + k < L
          · rw [if_pos q]; exact (T.2.2.1 _ q).2
          · rw [if_neg q]; omega
        have wl := t_isDigit (F := F) (σ := τ) hc
        rw [hz] at wl
        by_cases c4 : k ≤ 4
        · have hm : mM b L i = 2 := by
            unfold mM
            rw [hl, hd]
            simp only [Bool.false_eq_true, if_false, if_true]
            rw [if_pos (by omega)]
          rw [hm]
          simp (disch := omega) only [↓bnd_i, ↓cal_s, ↓cal_n, ↓cal2_s, ↓cal2_n, cal_s, cal2_s, ↓reduceIte, fa_lit, m1_lit, m2_lit, m1_lt, m2_lt, m1_eq, m2_eq, m1_le, m2_le, le_m1, le_m2, lt_m1, lt_m2, m12, m21, m1_m1, n_lt, n_le, n_eq, lt_t, lt_f, le_t, le_f, eq_t, eq_f, n_cl, inb_ok, n_add, pk_mul, pk_sub, n_rem, n_div, n_dec, n_mx, n_mn, eq_m1, eq_m2, ss_same, ss_ne, ss_r, ss_l, sr_f, sr_l, sr_same, sr_ne, sw_f, sw_l, sw_at, sw_ne, pk_us, pk_un, bI_t, bI_f, not_true_eq_false, not_false_eq_true, eq_self, and_true, true_and, and_false, false_and, or_true, true_or, or_false, false_or, decide_true, decide_false, Bool.false_eq_true, Bool.true_eq_false, ↓cal_w (wb), wb, ↓cal_w (wl), wl, f_X8_cutsUp_261, f_X8_cutsUp_291]
          rw [← e, show i + k = tE b L i by omega]
        · have hm : mM b L i = 3 := by
            unfold mM
            rw [hl, hd]
            simp only [Bool.false_eq_true, if_false, if_true]
            rw [if_neg (by omega)]
          rw [hm]
          simp (disch := omega) only [↓bnd_i, ↓cal_s, ↓cal_n, ↓cal2_s, ↓cal2_n, cal_s, cal2_s, ↓reduceIte, fa_lit, m1_lit, m2_lit, m1_lt, m2_lt, m1_eq, m2_eq, m1_le, m2_le, le_m1, le_m2, lt_m1, lt_m2, m12, m21, m1_m1, n_lt, n_le, n_eq, lt_t, lt_f, le_t, le_f, eq_t, eq_f, n_cl, inb_ok, n_add, pk_mul, pk_sub, n_rem, n_div, n_dec, n_mx, n_mn, eq_m1, eq_m2, ss_same, ss_ne, ss_r, ss_l, sr_f, sr_l, sr_same, sr_ne, sw_f, sw_l, sw_at, sw_ne, pk_us, pk_un, bI_t, bI_f, not_true_eq_false, not_false_eq_true, eq_self, and_true, true_and, and_false, false_and, or_true, true_or, or_false, false_or, decide_true, decide_false, Bool.false_eq_true, Bool.true_eq_false, ↓cal_w (wb), wb, ↓cal_w (wl), wl, f_X8_cutsUp_261, f_X8_cutsUp_291]
          rw [← e, show i + k = tE b L i by omega]
      · have ih' := ih (k + 1) (by omega) (by omega)
        rw [if_pos (show i + k < L by omega)] at wb
        have hk' := hdg k (by omega)
        have wl := t_isDigit (F := F) (σ := τ) (c := b (i + k)) (by omega)
        rw [show isDg (b (i + k)) = true from decide_eq_true hk'] at wl
        by_cases c4 : 4 ≤ k
        · rw [show min (k + 1) 4 = min k 4 by omega] at ih'
          simp (disch := omega) only [↓bnd_i, ↓cal_s, ↓cal_n, ↓cal2_s, ↓cal2_n, cal_s, cal2_s, ↓reduceIte, fa_lit, m1_lit, m2_lit, m1_lt, m2_lt, m1_eq, m2_eq, m1_le, m2_le, le_m1, le_m2, lt_m1, lt_m2, m12, m21, m1_m1, n_lt, n_le, n_eq, lt_t, lt_f, le_t, le_f, eq_t, eq_f, n_cl, inb_ok, n_add, pk_mul, pk_sub, n_rem, n_div, n_dec, n_mx, n_mn, eq_m1, eq_m2, ss_same, ss_ne, ss_r, ss_l, sr_f, sr_l, sr_same, sr_ne, sw_f, sw_l, sw_at, sw_ne, pk_us, pk_un, bI_t, bI_f, not_true_eq_false, not_false_eq_true, eq_self, and_true, true_and, and_false, false_and, or_true, true_or, or_false, false_or, decide_true, decide_false, Bool.false_eq_true, Bool.true_eq_false, ↓cal_w (wb), wb, ↓cal_w (wl), wl, f_X8_cutsUp_244]
          exact ih'
        · have b1 := nmF_le (a := fun k => b (i + k)) k (by omega) (fun x hx => hdg x (by omega))
          have b2 : (10 : Nat) ^ k ≤ 10 ^ 4 := Nat.pow_le_pow_right (by omega) (by omega)
          have e1 : nmF (fun k => b (i + k)) (k + 1) = 10 * nmF (fun k => b (i + k)) k + b (i + k) - 48 := by
            rw [nmF]; omega
          rw [show min (k + 1) 4 = k + 1 by omega, e1] at ih'
          rw [show min k 4 = k by omega]
          simp (disch := omega) only [↓bnd_i, ↓cal_s, ↓cal_n, ↓cal2_s, ↓cal2_n, cal_s, cal2_s, ↓reduceIte, fa_lit, m1_lit, m2_lit, m1_lt, m2_lt, m1_eq, m2_eq, m1_le, m2_le, le_m1, le_m2, lt_m1, lt_m2, m12, m21, m1_m1, n_lt, n_le, n_eq, lt_t, lt_f, le_t, le_f, eq_t, eq_f, n_cl, inb_ok, n_add, pk_mul, pk_sub, n_rem, n_div, n_dec, n_mx, n_mn, eq_m1, eq_m2, ss_same, ss_ne, ss_r, ss_l, sr_f, sr_l, sr_same, sr_ne, sw_f, sw_l, sw_at, sw_ne, pk_us, pk_un, bI_t, bI_f, not_true_eq_false, not_false_eq_true, eq_self, and_true, true_and, and_false, false_and, or_true, true_or, or_false, false_or, decide_true, decide_false, Bool.false_eq_true, Bool.true_eq_false, ↓cal_w (wb), wb, ↓cal_w (wl), wl, f_X8_cutsUp_244]
          exact ih'
  exact key F 0 (by omega) (by omega)
theorem t_sign {F : Nat} {τ : St} {i c : Nat} {d : Int32} (hc : c < 256) : f_X8_sign F τ (nI i) (nI c) d = cal (f_X8_token F τ (nI (sgM c)) (nI i) (nI 0) (0 : Int64)) (fun t => some (nI 1, t)) := by
  unfold f_X8_sign f_X8_sign_33 f_X8_sign_45 f_X8_sign_55 f_X8_sign_65 f_X8_sign_75 sgM
  by_cases h1 : c = 59
  · simp (disch := omega) only [↓bnd_i, ↓cal_s, ↓cal_n, ↓cal2_s, ↓cal2_n, cal_s, cal2_s, ↓reduceIte, fa_lit, m1_lit, m2_lit, m1_lt, m2_lt, m1_eq, m2_eq, m1_le, m2_le, le_m1, le_m2, lt_m1, lt_m2, m12, m21, m1_m1, n_lt, n_le, n_eq, lt_t, lt_f, le_t, le_f, eq_t, eq_f, n_cl, inb_ok, n_add, pk_mul, pk_sub, n_rem, n_div, n_dec, n_mx, n_mn, eq_m1, eq_m2, ss_same, ss_ne, ss_r, ss_l, sr_f, sr_l, sr_same, sr_ne, sw_f, sw_l, sw_at, sw_ne, pk_us, pk_un, bI_t, bI_f, not_true_eq_false, not_false_eq_true, eq_self, and_true, true_and, and_false, false_and, or_true, true_or, or_false, false_or, decide_true, decide_false, Bool.false_eq_true, Bool.true_eq_false]
  · by_cases h2 : c = 43
    · simp (disch := omega) only [↓bnd_i, ↓cal_s, ↓cal_n, ↓cal2_s, ↓cal2_n, cal_s, cal2_s, ↓reduceIte, fa_lit, m1_lit, m2_lit, m1_lt, m2_lt, m1_eq, m2_eq, m1_le, m2_le, le_m1, le_m2, lt_m1, lt_m2, m12, m21, m1_m1, n_lt, n_le, n_eq, lt_t, lt_f, le_t, le_f, eq_t, eq_f, n_cl, inb_ok, n_add, pk_mul, pk_sub, n_rem, n_div, n_dec, n_mx, n_mn, eq_m1, eq_m2, ss_same, ss_ne, ss_r, ss_l, sr_f, sr_l, sr_same, sr_ne, sw_f, sw_l, sw_at, sw_ne, pk_us, pk_un, bI_t, bI_f, not_true_eq_false, not_false_eq_true, eq_self, and_true, true_and, and_false, false_and, or_true, true_or, or_false, false_or, decide_true, decide_false, Bool.false_eq_true, Bool.true_eq_false]
    · by_cases h3 : c = 45
      · simp (disch := omega) only [↓bnd_i, ↓cal_s, ↓cal_n, ↓cal2_s, ↓cal2_n, cal_s, cal2_s, ↓reduceIte, fa_lit, m1_lit, m2_lit, m1_lt, m2_lt, m1_eq, m2_eq, m1_le, m2_le, le_m1, le_m2, lt_m1, lt_m2, m12, m21, m1_m1, n_lt, n_le, n_eq, lt_t, lt_f, le_t, le_f, eq_t, eq_f, n_cl, inb_ok, n_add, pk_mul, pk_sub, n_rem, n_div, n_dec, n_mx, n_mn, eq_m1, eq_m2, ss_same, ss_ne, ss_r, ss_l, sr_f, sr_l, sr_same, sr_ne, sw_f, sw_l, sw_at, sw_ne, pk_us, pk_un, bI_t, bI_f, not_true_eq_false, not_false_eq_true, eq_self, and_true, true_and, and_false, false_and, or_true, true_or, or_false, false_or, decide_true, decide_false, Bool.false_eq_true, Bool.true_eq_false]
      · by_cases h4 : c = 42
        · simp (disch := omega) only [↓bnd_i, ↓cal_s, ↓cal_n, ↓cal2_s, ↓cal2_n, cal_s, cal2_s, ↓reduceIte, fa_lit, m1_lit, m2_lit, m1_lt, m2_lt, m1_eq, m2_eq, m1_le, m2_le, le_m1, le_m2, lt_m1, lt_m2, m12, m21, m1_m1, n_lt, n_le, n_eq, lt_t, lt_f, le_t, le_f, eq_t, eq_f, n_cl, inb_ok, n_add, pk_mul, pk_sub, n_rem, n_div, n_dec, n_mx, n_mn, eq_m1, eq_m2, ss_same, ss_ne, ss_r, ss_l, sr_f, sr_l, sr_same, sr_ne, sw_f, sw_l, sw_at, sw_ne, pk_us, pk_un, bI_t, bI_f, not_true_eq_false, not_false_eq_true, eq_self, and_true, true_and, and_false, false_and, or_true, true_or, or_false, false_or, decide_true, decide_false, Bool.false_eq_true, Bool.true_eq_false]
        · by_cases h5 : c = 47
          · simp (disch := omega) only [↓bnd_i, ↓cal_s, ↓cal_n, ↓cal2_s, ↓cal2_n, cal_s, cal2_s, ↓reduceIte, fa_lit, m1_lit, m2_lit, m1_lt, m2_lt, m1_eq, m2_eq, m1_le, m2_le, le_m1, le_m2, lt_m1, lt_m2, m12, m21, m1_m1, n_lt, n_le, n_eq, lt_t, lt_f, le_t, le_f, eq_t, eq_f, n_cl, inb_ok, n_add, pk_mul, pk_sub, n_rem, n_div, n_dec, n_mx, n_mn, eq_m1, eq_m2, ss_same, ss_ne, ss_r, ss_l, sr_f, sr_l, sr_same, sr_ne, sw_f, sw_l, sw_at, sw_ne, pk_us, pk_un, bI_t, bI_f, not_true_eq_false, not_false_eq_true, eq_self, and_true, true_and, and_false, false_and, or_true, true_or, or_false, false_or, decide_true, decide_false, Bool.false_eq_true, Bool.true_eq_false]
          · by_cases h6 : c = 37
            · simp (disch := omega) only [↓bnd_i, ↓cal_s, ↓cal_n, ↓cal2_s, ↓cal2_n, cal_s, cal2_s, ↓reduceIte, fa_lit, m1_lit, m2_lit, m1_lt, m2_lt, m1_eq, m2_eq, m1_le, m2_le, le_m1, le_m2, lt_m1, lt_m2, m12, m21, m1_m1, n_lt, n_le, n_eq, lt_t, lt_f, le_t, le_f, eq_t, eq_f, n_cl, inb_ok, n_add, pk_mul, pk_sub, n_rem, n_div, n_dec, n_mx, n_mn, eq_m1, eq_m2, ss_same, ss_ne, ss_r, ss_l, sr_f, sr_l, sr_same, sr_ne, sw_f, sw_l, sw_at, sw_ne, pk_us, pk_un, bI_t, bI_f, not_true_eq_false, not_false_eq_true, eq_self, and_true, true_and, and_false, false_and, or_true, true_or, or_false, false_or, decide_true, decide_false, Bool.false_eq_true, Bool.true_eq_false]
            · by_cases h7 : c = 40
              · simp (disch := omega) only [↓bnd_i, ↓cal_s, ↓cal_n, ↓cal2_s, ↓cal2_n, cal_s, cal2_s, ↓reduceIte, fa_lit, m1_lit, m2_lit, m1_lt, m2_lt, m1_eq, m2_eq, m1_le, m2_le, le_m1, le_m2, lt_m1, lt_m2, m12, m21, m1_m1, n_lt, n_le, n_eq, lt_t, lt_f, le_t, le_f, eq_t, eq_f, n_cl, inb_ok, n_add, pk_mul, pk_sub, n_rem, n_div, n_dec, n_mx, n_mn, eq_m1, eq_m2, ss_same, ss_ne, ss_r, ss_l, sr_f, sr_l, sr_same, sr_ne, sw_f, sw_l, sw_at, sw_ne, pk_us, pk_un, bI_t, bI_f, not_true_eq_false, not_false_eq_true, eq_self, and_true, true_and, and_false, false_and, or_true, true_or, or_false, false_or, decide_true, decide_false, Bool.false_eq_true, Bool.true_eq_false]
              · by_cases h8 : c = 41
                · simp (disch := omega) only [↓bnd_i, ↓cal_s, ↓cal_n, ↓cal2_s, ↓cal2_n, cal_s, cal2_s, ↓reduceIte, fa_lit, m1_lit, m2_lit, m1_lt, m2_lt, m1_eq, m2_eq, m1_le, m2_le, le_m1, le_m2, lt_m1, lt_m2, m12, m21, m1_m1, n_lt, n_le, n_eq, lt_t, lt_f, le_t, le_f, eq_t, eq_f, n_cl, inb_ok, n_add, pk_mul, pk_sub, n_rem, n_div, n_dec, n_mx, n_mn, eq_m1, eq_m2, ss_same, ss_ne, ss_r, ss_l, sr_f, sr_l, sr_same, sr_ne, sw_f, sw_l, sw_at, sw_ne, pk_us, pk_un, bI_t, bI_f, not_true_eq_false, not_false_eq_true, eq_self, and_true, true_and, and_false, false_and, or_true, true_or, or_false, false_or, decide_true, decide_false, Bool.false_eq_true, Bool.true_eq_false]
                · simp (disch := omega) only [↓bnd_i, ↓cal_s, ↓cal_n, ↓cal2_s, ↓cal2_n, cal_s, cal2_s, ↓reduceIte, fa_lit, m1_lit, m2_lit, m1_lt, m2_lt, m1_eq, m2_eq, m1_le, m2_le, le_m1, le_m2, lt_m1, lt_m2, m12, m21, m1_m1, n_lt, n_le, n_eq, lt_t, lt_f, le_t, le_f, eq_t, eq_f, n_cl, inb_ok, n_add, pk_mul, pk_sub, n_rem, n_div, n_dec, n_mx, n_mn, eq_m1, eq_m2, ss_same, ss_ne, ss_r, ss_l, sr_f, sr_l, sr_same, sr_ne, sw_f, sw_l, sw_at, sw_ne, pk_us, pk_un, bI_t, bI_f, not_true_eq_false, not_false_eq_true, eq_self, and_true, true_and, and_false, false_and, or_true, true_or, or_false, false_or, decide_true, decide_false, Bool.false_eq_true, Bool.true_eq_false]
/-- the model's tokens are all there -/
def mE (b : Nat → Nat) (L : Nat) (τ : St) : Prop := ∀ k, k ≤ 400 → (∀ j, j < k → tq b L j < L) → mT' b L τ k
theorem t_cutsL {F : Nat} (hF : 2100 < F) {b : Nat → Nat} {L : Nat} : ∀ (m i n : Nat) (τ : St), TxM b L τ → i ≤ L → n ≤ 401 → L - i < m → τ.1 3 = nI n → nx b L i = tq b L n → (∀ k, k < n → tq b L k < L ∧ mT' b L τ k) → ∃ τ', f_X8_cutsUp_7 F m τ (nI i) = some τ' ∧ mE b L τ' ∧ FmK τ τ' := by
  intro m
  induction m with
  | zero => intro i n τ _ _ _ h; omega
  | succ m ih =>
    intro i n τ T hi hn hm h3 hq hk
    have hL := T.1
    have h2 := T.2.1
    rw [f_X8_cutsUp_7]
    by_cases n4 : n = 401
    · refine ⟨τ, ?_, fun k h1 _ => (hk k (by omega)).2, ⟨fun _ _ => rfl, fun _ _ => rfl, rfl⟩⟩
      simp (disch := omega) only [↓bnd_i, ↓cal_s, ↓cal_n, ↓cal2_s, ↓cal2_n, cal_s, cal2_s, ↓reduceIte, fa_lit, m1_lit, m2_lit, m1_lt, m2_lt, m1_eq, m2_eq, m1_le, m2_le, le_m1, le_m2, lt_m1, lt_m2, m12, m21, m1_m1, n_lt, n_le, n_eq, lt_t, lt_f, le_t, le_f, eq_t, eq_f, n_cl, inb_ok, n_add, pk_mul, pk_sub, n_rem, n_div, n_dec, n_mx, n_mn, eq_m1, eq_m2, ss_same, ss_ne, ss_r, ss_l, sr_f, sr_l, sr_same, sr_ne, sw_f, sw_l, sw_at, sw_ne, pk_us, pk_un, bI_t, bI_f, not_true_eq_false, not_false_eq_true, eq_self, and_true, true_and, and_false, false_and, or_true, true_or, or_false, false_or, decide_true, decide_false, Bool.false_eq_true, Bool.true_eq_false, h3]
    · have wb := t_byteAt (F := F) T (i := i) (by omega)
      by_cases eL : i = L
      · have q : tq b L n = L := by rw [← hq, eL]; unfold nx; exact re_n (Or.inl (Nat.le_refl _))
        have pt := t_token (F := F) h3 (by omega) (nI 0) (nI L) (nI 0) (0 : Int64)
        obtain ⟨p0, p1, p2, p3⟩ := tkM_r (τ := τ) (n := n) (x := nI 0) (y := nI L) (z := nI 0) (w := 0)
        rw [if_neg (by omega)] at wb
        refine ⟨tkM τ n (nI 0) (nI L) (nI 0) 0, ?_, fun k h1 hj => ?_, FmK.tk⟩
        · have pt' : f_X8_token F τ (nI 0) (nI L) (nI 0) (lN 0) = _ := pt
          simp (disch := omega) only [↓bnd_i, ↓cal_s, ↓cal_n, ↓cal2_s, ↓cal2_n, cal_s, cal2_s, ↓reduceIte, fa_lit, m1_lit, m2_lit, m1_lt, m2_lt, m1_eq, m2_eq, m1_le, m2_le, le_m1, le_m2, lt_m1, lt_m2, m12, m21, m1_m1, n_lt, n_le, n_eq, lt_t, lt_f, le_t, le_f, eq_t, eq_f, n_cl, inb_ok, n_add, pk_mul, pk_sub, n_rem, n_div, n_dec, n_mx, n_mn, eq_m1, eq_m2, ss_same, ss_ne, ss_r, ss_l, sr_f, sr_l, sr_same, sr_ne, sw_f, sw_l, sw_at, sw_ne, pk_us, pk_un, bI_t, bI_f, not_true_eq_false, not_false_eq_true, eq_self, and_true, true_and, and_false, false_and, or_true, true_or, or_false, false_or, decide_true, decide_false, Bool.false_eq_true, Bool.true_eq_false, ↓cal_w (wb), wb, h3, h2]
          exact cal_w pt _
        · rcases Nat.lt_trichotomy k n with d | d | d
          · exact mT_put d (hk k d).2
          · subst d
            refine ⟨fun q2 => by omega, fun _ => ⟨?_, ?_⟩⟩
            · rw [p1, pk_us]
            · rw [p2, pk_us]
          · have := hj n d
            omega
      · have hiL : i < L := by omega
        rw [if_pos hiL] at wb
        obtain ⟨x1, x2⟩ := T.2.2.1 i hiL
        obtain ⟨t1, t2⟩ := tE_P (b := b) hiL
        cases c : isBl (b i)
        · have hqi : tq b L n = i := by rw [← hq]; unfold nx; exact re_n (Or.inr c)
          have nb := of_decide_eq_false c
          have fin : ∀ (v : Nat) (w : Int64), (tK b L i = 20 → v = tV b L i) → ∃ τ', cal (f_X8_token F τ (nI (mM b L i)) (nI i) (nI v) w) (fun t1 => f_X8_cutsUp_7 F m t1 (nI (tE b L i))) = some τ' ∧ mE b L τ' ∧ FmK τ τ' := by
            intro v w hv
            have pt := t_token (F := F) h3 (by omega) (nI (mM b L i)) (nI i) (nI v) w
            obtain ⟨p0, p1, p2, p3⟩ := tkM_r (τ := τ) (n := n) (x := nI (mM b L i)) (y := nI i) (z := nI v) (w := w)
            have fr : FmK τ (tkM τ n (nI (mM b L i)) (nI i) (nI v) w) := FmK.tk
            obtain ⟨τ', g1, g2, g3⟩ := ih (tE b L i) (n + 1) _ (T.fr fr) t2 (by omega) (by omega) p0 (by rw [tq_s (by omega), hqi]) (fun k h => by
              by_cases q : k = n
              · subst q
                refine ⟨by omega, fun _ => ⟨?_, ?_, fun q20 => ?_⟩, fun q2 => by omega⟩
                · rw [p1, pk_us, hqi]
                · rw [p2, pk_us, hqi]
                · rw [hqi] at q20 ⊢
                  rw [p3, pk_us, hv q20]
              · exact ⟨(hk k (by omega)).1, mT_put (by omega) (hk k (by omega)).2⟩)
            refine ⟨τ', ?_, g2, fr.trans g3⟩
            rw [cal_w pt]
            exact g1
          have wl := t_isLetter (F := F) (σ := τ) x2
          have wd := t_isDigit (F := F) (σ := τ) x2
          cases dl : isLt (b i)
          · rw [dl] at wl
            cases dd : isDg (b i)
            · rw [dd] at wd
              have wb2 := t_byteAt (F := F) T (i := i + 1) (by omega)
              have ws := t_sign (F := F) (τ := τ) (i := i) (c := b i) (d := nI (if i + 1 < L then b (i + 1) else 0)) x2
              have pt := t_token (F := F) h3 (by omega) (nI (sgM (b i))) (nI i) (nI 0) (0 : Int64)
              rw [cal_w pt] at ws
              have te : tE b L i = i + 1 := by unfold tE; rw [dl, dd]; rfl
              have hm : mM b L i = sgM (b i) := by unfold mM; rw [dl, dd]; rfl
              obtain ⟨τ', g1, g2, g3⟩ := fin 0 (0 : Int64) (fun q => by
                unfold tK at q
                rw [dl, dd] at q
                simp only [Bool.false_eq_true, if_false] at q
                unfold sgK at q
                exfalso
                revert q
                repeat' split
                all_goals omega)
              rw [hm, te, cal_w pt] at g1
              refine ⟨τ', ?_, g2, g3⟩
              simp (disch := omega) only [↓bnd_i, ↓cal_s, ↓cal_n, ↓cal2_s, ↓cal2_n, cal_s, cal2_s, ↓reduceIte, fa_lit, m1_lit, m2_lit, m1_lt, m2_lt, m1_eq, m2_eq, m1_le, m2_le, le_m1, le_m2, lt_m1, lt_m2, m12, m21, m1_m1, n_lt, n_le, n_eq, lt_t, lt_f, le_t, le_f, eq_t, eq_f, n_cl, inb_ok, n_add, pk_mul, pk_sub, n_rem, n_div, n_dec, n_mx, n_mn, eq_m1, eq_m2, ss_same, ss_ne, ss_r, ss_l, sr_f, sr_l, sr_same, sr_ne, sw_f, sw_l, sw_at, sw_ne, pk_us, pk_un, bI_t, bI_f, not_true_eq_false, not_false_eq_true, eq_self, and_true, true_and, and_false, false_and, or_true, true_or, or_false, false_or, decide_true, decide_false, Bool.false_eq_true, Bool.true_eq_false, ↓cal_w (wb), wb, ↓cal_w (wl), wl, ↓cal_w (wd), wd, ↓cal_w (wb2), wb2, ↓cal2_w (ws), ws, h3, h2, f_X8_cutsUp_291]
              exact g1
            · rw [dd] at wd
              obtain ⟨v, hv, w208⟩ := t_cut208 (F := F) hF T (f_X8_cutsUp_7 F m) hiL dl dd
              obtain ⟨τ', g1, g2, g3⟩ := fin v (0 : Int64) hv
              refine ⟨τ', ?_, g2, g3⟩
              simp (disch := omega) only [↓bnd_i, ↓cal_s, ↓cal_n, ↓cal2_s, ↓cal2_n, cal_s, cal2_s, ↓reduceIte, fa_lit, m1_lit, m2_lit, m1_lt, m2_lt, m1_eq, m2_eq, m1_le, m2_le, le_m1, le_m2, lt_m1, lt_m2, m12, m21, m1_m1, n_lt, n_le, n_eq, lt_t, lt_f, le_t, le_f, eq_t, eq_f, n_cl, inb_ok, n_add, pk_mul, pk_sub, n_rem, n_div, n_dec, n_mx, n_mn, eq_m1, eq_m2, ss_same, ss_ne, ss_r, ss_l, sr_f, sr_l, sr_same, sr_ne, sw_f, sw_l, sw_at, sw_ne, pk_us, pk_un, bI_t, bI_f, not_true_eq_false, not_false_eq_true, eq_self, and_true, true_and, and_false, false_and, or_true, true_or, or_false, false_or, decide_true, decide_false, Bool.false_eq_true, Bool.true_eq_false, ↓cal_w (wb), wb, ↓cal_w (wl), wl, ↓cal_w (wd), wd, h3, h2]
              rw [w208]
              exact g1
          · rw [dl] at wl
            obtain ⟨w, w85⟩ := t_cut85 (F := F) hF T (f_X8_cutsUp_7 F m) hiL dl
            obtain ⟨τ', g1, g2, g3⟩ := fin 0 w (fun q => by
              unfold tK at q
              rw [dl] at q
              simp only [if_true] at q
              exfalso
              have : ∀ v m w, w + m = 20 → wkF v m w ≠ 20 := by
                intro v m
                induction m with
                | zero => intro w _; show (30 : Nat) ≠ 20; omega
                | succ m ih => intro w hw; rw [wkF]; split; omega; exact ih (w + 1) (by omega)
              by_cases q3 : tE b L i - i ≤ 8
              · rw [if_pos q3] at q; exact this _ 20 0 rfl q
              · rw [if_neg q3] at q; omega)
            refine ⟨τ', ?_, g2, g3⟩
            have w85' : f_X8_cutsUp_85 F (f_X8_cutsUp_7 F m) F τ (nI i) (nI 0) 0 = _ := w85
            simp (disch := omega) only [↓bnd_i, ↓cal_s, ↓cal_n, ↓cal2_s, ↓cal2_n, cal_s, cal2_s, ↓reduceIte, fa_lit, m1_lit, m2_lit, m1_lt, m2_lt, m1_eq, m2_eq, m1_le, m2_le, le_m1, le_m2, lt_m1, lt_m2, m12, m21, m1_m1, n_lt, n_le, n_eq, lt_t, lt_f, le_t, le_f, eq_t, eq_f, n_cl, inb_ok, n_add, pk_mul, pk_sub, n_rem, n_div, n_dec, n_mx, n_mn, eq_m1, eq_m2, ss_same, ss_ne, ss_r, ss_l, sr_f, sr_l, sr_same, sr_ne, sw_f, sw_l, sw_at, sw_ne, pk_us, pk_un, bI_t, bI_f, not_true_eq_false, not_false_eq_true, eq_self, and_true, true_and, and_false, false_and, or_true, true_or, or_false, false_or, decide_true, decide_false, Bool.false_eq_true, Bool.true_eq_false, ↓cal_w (wb), wb, ↓cal_w (wl), wl, h3, h2]
            rw [w85']
            exact g1
        · have hb := of_decide_eq_true c
          obtain ⟨τ', g1, g2, g3⟩ := ih (i + 1) n τ T (by omega) hn (by omega) h3 (by rw [← hq]; unfold nx; exact (re_s hiL c).symm) hk
          refine ⟨τ', ?_, g2, g3⟩
          by_cases e1 : b i = 9
          · simp (disch := omega) only [↓bnd_i, ↓cal_s, ↓cal_n, ↓cal2_s, ↓cal2_n, cal_s, cal2_s, ↓reduceIte, fa_lit, m1_lit, m2_lit, m1_lt, m2_lt, m1_eq, m2_eq, m1_le, m2_le, le_m1, le_m2, lt_m1, lt_m2, m12, m21, m1_m1, n_lt, n_le, n_eq, lt_t, lt_f, le_t, le_f, eq_t, eq_f, n_cl, inb_ok, n_add, pk_mul, pk_sub, n_rem, n_div, n_dec, n_mx, n_mn, eq_m1, eq_m2, ss_same, ss_ne, ss_r, ss_l, sr_f, sr_l, sr_same, sr_ne, sw_f, sw_l, sw_at, sw_ne, pk_us, pk_un, bI_t, bI_f, not_true_eq_false, not_false_eq_true, eq_self, and_true, true_and, and_false, false_and, or_true, true_or, or_false, false_or, decide_true, decide_false, Bool.false_eq_true, Bool.true_eq_false, ↓cal_w (wb), wb, h3, h2, f_X8_cutsUp_67, f_X8_cutsUp_291]
            exact g1
          · by_cases e2 : b i = 10
            · simp (disch := omega) only [↓bnd_i, ↓cal_s, ↓cal_n, ↓cal2_s, ↓cal2_n, cal_s, cal2_s, ↓reduceIte, fa_lit, m1_lit, m2_lit, m1_lt, m2_lt, m1_eq, m2_eq, m1_le, m2_le, le_m1, le_m2, lt_m1, lt_m2, m12, m21, m1_m1, n_lt, n_le, n_eq, lt_t, lt_f, le_t, le_f, eq_t, eq_f, n_cl, inb_ok, n_add, pk_mul, pk_sub, n_rem, n_div, n_dec, n_mx, n_mn, eq_m1, eq_m2, ss_same, ss_ne, ss_r, ss_l, sr_f, sr_l, sr_same, sr_ne, sw_f, sw_l, sw_at, sw_ne, pk_us, pk_un, bI_t, bI_f, not_true_eq_false, not_false_eq_true, eq_self, and_true, true_and, and_false, false_and, or_true, true_or, or_false, false_or, decide_true, decide_false, Bool.false_eq_true, Bool.true_eq_false, ↓cal_w (wb), wb, h3, h2, f_X8_cutsUp_67, f_X8_cutsUp_291]
              exact g1
            · by_cases e3 : b i = 13
              · simp (disch := omega) only [↓bnd_i, ↓cal_s, ↓cal_n, ↓cal2_s, ↓cal2_n, cal_s, cal2_s, ↓reduceIte, fa_lit, m1_lit, m2_lit, m1_lt, m2_lt, m1_eq, m2_eq, m1_le, m2_le, le_m1, le_m2, lt_m1, lt_m2, m12, m21, m1_m1, n_lt, n_le, n_eq, lt_t, lt_f, le_t, le_f, eq_t, eq_f, n_cl, inb_ok, n_add, pk_mul, pk_sub, n_rem, n_div, n_dec, n_mx, n_mn, eq_m1, eq_m2, ss_same, ss_ne, ss_r, ss_l, sr_f, sr_l, sr_same, sr_ne, sw_f, sw_l, sw_at, sw_ne, pk_us, pk_un, bI_t, bI_f, not_true_eq_false, not_false_eq_true, eq_self, and_true, true_and, and_false, false_and, or_true, true_or, or_false, false_or, decide_true, decide_false, Bool.false_eq_true, Bool.true_eq_false, ↓cal_w (wb), wb, h3, h2, f_X8_cutsUp_67, f_X8_cutsUp_291]
                exact g1
              · have e4 : b i = 32 := by omega
                simp (disch := omega) only [↓bnd_i, ↓cal_s, ↓cal_n, ↓cal2_s, ↓cal2_n, cal_s, cal2_s, ↓reduceIte, fa_lit, m1_lit, m2_lit, m1_lt, m2_lt, m1_eq, m2_eq, m1_le, m2_le, le_m1, le_m2, lt_m1, lt_m2, m12, m21, m1_m1, n_lt, n_le, n_eq, lt_t, lt_f, le_t, le_f, eq_t, eq_f, n_cl, inb_ok, n_add, pk_mul, pk_sub, n_rem, n_div, n_dec, n_mx, n_mn, eq_m1, eq_m2, ss_same, ss_ne, ss_r, ss_l, sr_f, sr_l, sr_same, sr_ne, sw_f, sw_l, sw_at, sw_ne, pk_us, pk_un, bI_t, bI_f, not_true_eq_false, not_false_eq_true, eq_self, and_true, true_and, and_false, false_and, or_true, true_or, or_false, false_or, decide_true, decide_false, Bool.false_eq_true, Bool.true_eq_false, ↓cal_w (wb), wb, h3, h2, f_X8_cutsUp_67, f_X8_cutsUp_291]
                exact g1
theorem t_cutsUp {F : Nat} (hF : 2100 < F) {b : Nat → Nat} {L : Nat} {τ : St} (T : TxM b L τ) : ∃ τ', f_X8_cutsUp F τ = some τ' ∧ mE b L τ' ∧ FmK τ τ' := by
  have f0 : FmK τ (ss τ 3 (nI 0)) := ⟨fun k h => ss_ne h, fun _ _ => rfl, rfl⟩
  have hL := T.1
  obtain ⟨τ', g1, g2, g3⟩ := t_cutsL (F := F) hF (b := b) (L := L) F 0 0 (ss τ 3 (nI 0)) (T.fr f0) (by omega) (by omega) (by omega) ss_same rfl (fun k h => by omega)
  refine ⟨τ', ?_, g2, f0.trans g3⟩
  unfold f_X8_cutsUp
  simp (disch := omega) only [↓bnd_i, ↓cal_s, ↓cal_n, ↓cal2_s, ↓cal2_n, cal_s, cal2_s, ↓reduceIte, fa_lit, m1_lit, m2_lit, m1_lt, m2_lt, m1_eq, m2_eq, m1_le, m2_le, le_m1, le_m2, lt_m1, lt_m2, m12, m21, m1_m1, n_lt, n_le, n_eq, lt_t, lt_f, le_t, le_f, eq_t, eq_f, n_cl, inb_ok, n_add, pk_mul, pk_sub, n_rem, n_div, n_dec, n_mx, n_mn, eq_m1, eq_m2, ss_same, ss_ne, ss_r, ss_l, sr_f, sr_l, sr_same, sr_ne, sw_f, sw_l, sw_at, sw_ne, pk_us, pk_un, bI_t, bI_f, not_true_eq_false, not_false_eq_true, eq_self, and_true, true_and, and_false, false_and, or_true, true_or, or_false, false_or, decide_true, decide_false, Bool.false_eq_true, Bool.true_eq_false]
  exact g1
