/-! PURE: how a restore comes out -/
/-- whether a record changes a page behind where a copy has it -/
def bh (N : Nat → Int32) (c l i : Nat) : Bool := decide (¬ chg N l i < 0 ∧ sc N c (chg N l i).toNatClampNeg < i)
theorem bh_n {N : Nat → Int32} {c l i : Nat} (e : chg N l i = m1) : bh N c l i = false := by
  unfold bh; rw [e]; exact decide_eq_false (fun h => h.1 m1_neg)
theorem bh_g {N : Nat → Int32} {c l i g : Nat} (hg : g < 2 ^ 31) (e : chg N l i = nI g) : bh N c l i = decide (sc N c g < i) := by
  unfold bh; rw [e, n_cl hg]
  exact decide_eq_decide.mpr ⟨fun h => h.2, fun h => ⟨nI_pos hg, h⟩⟩
/-- the first such record -/
def fcF (N : Nat → Int32) (c l : Nat) : Nat → Nat → Nat
  | 0, _ => 0
  | m + 1, i => if bh N c l i then i else fcF N c l m (i + 1)
theorem fcF_s {N : Nat → Int32} {c l m i : Nat} : fcF N c l (m + 1) i = if bh N c l i then i else fcF N c l m (i + 1) := rfl
def fc (N : Nat → Int32) (c l p : Nat) : Nat := fcF N c l p 1
theorem fcF_P {N : Nat → Int32} {c l : Nat} : ∀ m i, 1 ≤ i → (fcF N c l m i = 0 ∧ ∀ j, i ≤ j → j < i + m → bh N c l j = false) ∨ (i ≤ fcF N c l m i ∧ fcF N c l m i < i + m ∧ bh N c l (fcF N c l m i) = true ∧ ∀ j, i ≤ j → j < fcF N c l m i → bh N c l j = false) := by
  intro m
  induction m with
  | zero => intro i _; exact Or.inl ⟨rfl, fun j h1 h2 => by omega⟩
  | succ m ih =>
    intro i hi
    rw [fcF_s]
    cases d : bh N c l i
    · simp only [Bool.false_eq_true, if_false]
      rcases ih (i + 1) (by omega) with ⟨e1, e2⟩ | ⟨e1, e2, e3, e4⟩
      · refine Or.inl ⟨e1, fun j h1 h2 => ?_⟩
        by_cases c : j = i
        · rw [c]; exact d
        · exact e2 j (by omega) (by omega)
      · refine Or.inr ⟨by omega, by omega, e3, fun j h1 h2 => ?_⟩
        by_cases c : j = i
        · rw [c]; exact d
        · exact e4 j (by omega) (by omega)
    · simp only [if_true]
      exact Or.inr ⟨Nat.le_refl _, by omega, d, fun j h1 h2 => by omega⟩
theorem fc_P {N : Nat → Int32} {c l : Nat} (p : Nat) : (fc N c l p = 0 ∧ ∀ j, 1 ≤ j → j ≤ p → bh N c l j = false) ∨ (1 ≤ fc N c l p ∧ fc N c l p ≤ p ∧ bh N c l (fc N c l p) = true ∧ ∀ j, 1 ≤ j → j < fc N c l p → bh N c l j = false) := by
  rcases fcF_P (N := N) (c := c) (l := l) p 1 (Nat.le_refl _) with ⟨e1, e2⟩ | ⟨e1, e2, e3, e4⟩
  · exact Or.inl ⟨e1, fun j h1 h2 => e2 j h1 (by omega)⟩
  · have e5 : fc N c l p < 1 + p := e2
    exact Or.inr ⟨e1, by omega, e3, e4⟩
theorem fc_le {N : Nat → Int32} {c l p : Nat} : fc N c l p ≤ p := by
  rcases fc_P (N := N) (c := c) (l := l) p with ⟨e, -⟩ | ⟨-, e, -⟩ <;> omega
/-- what is first up to a later place -/
theorem fc_sub {N : Nat → Int32} {c l p t : Nat} (h : p ≤ t) : fc N c l p = if fc N c l t = 0 ∨ p < fc N c l t then 0 else fc N c l t := by
  rcases fc_P (N := N) (c := c) (l := l) t with ⟨e1, e2⟩ | ⟨e1, e2, e3, e4⟩
  · rw [if_pos (Or.inl e1)]
    rcases fc_P (N := N) (c := c) (l := l) p with ⟨x1, x2⟩ | ⟨x1, x2, x3, x4⟩
    · exact x1
    · rw [e2 _ x1 (by omega)] at x3; cases x3
  · rcases fc_P (N := N) (c := c) (l := l) p with ⟨x1, x2⟩ | ⟨x1, x2, x3, x4⟩
    · by_cases d : p < fc N c l t
      · rw [if_pos (Or.inr d)]; exact x1
      · rw [x2 _ e1 (by omega)] at e3; cases e3
    · rcases Nat.lt_trichotomy (fc N c l p) (fc N c l t) with d | d | d
      · rw [e4 _ x1 d] at x3; cases x3
      · rw [if_neg (by omega)]; exact d
      · rw [x4 _ e1 d] at e3; cases e3
/-- the first piece that hinders -/
def bdF (N : Nat → Int32) (l : Nat) : Nat → Nat → Option Nat
  | 0, _ => none
  | m + 1, k => if hin N (hd N l k) k = 0 then bdF N l m (k + 1) else some k
theorem bdF_s {N : Nat → Int32} {l m k : Nat} : bdF N l (m + 1) k = if hin N (hd N l k) k = 0 then bdF N l m (k + 1) else some k := rfl
def bd (N : Nat → Int32) (l f p : Nat) : Option Nat := bdF N l ((p - 1) / wd N + 1 - (f - 1) / wd N) ((f - 1) / wd N)
theorem bdF_P {N : Nat → Int32} {l : Nat} : ∀ m k, match bdF N l m k with
    | none => ∀ j, k ≤ j → j < k + m → hin N (hd N l j) j = 0
    | some B => k ≤ B ∧ B < k + m ∧ hin N (hd N l B) B ≠ 0 ∧ ∀ j, k ≤ j → j < B → hin N (hd N l j) j = 0 := by
  intro m
  induction m with
  | zero => intro k; exact fun j h1 h2 => by omega
  | succ m ih =>
    intro k
    rw [bdF_s]
    by_cases d : hin N (hd N l k) k = 0
    · rw [if_pos d]
      have q := ih (k + 1)
      cases e : bdF N l m (k + 1) with
      | none =>
        rw [e] at q
        intro j h1 h2
        by_cases c : j = k
        · rw [c]; exact d
        · exact q j (by omega) (by omega)
      | some B =>
        rw [e] at q
        obtain ⟨q1, q2, q3, q4⟩ := q
        refine ⟨by omega, by omega, q3, fun j h1 h2 => ?_⟩
        by_cases c : j = k
        · rw [c]; exact d
        · exact q4 j (by omega) (by omega)
    · rw [if_neg d]
      exact ⟨Nat.le_refl _, by omega, d, fun j h1 h2 => by omega⟩
theorem bdF_none {N : Nat → Int32} {l m k : Nat} (e : bdF N l m k = none) : ∀ j, k ≤ j → j < k + m → hin N (hd N l j) j = 0 := by
  have := bdF_P (N := N) (l := l) m k
  rw [e] at this
  exact this
theorem bdF_some {N : Nat → Int32} {l m k B : Nat} (e : bdF N l m k = some B) : k ≤ B ∧ B < k + m ∧ hin N (hd N l B) B ≠ 0 ∧ ∀ j, k ≤ j → j < B → hin N (hd N l j) j = 0 := by
  have := bdF_P (N := N) (l := l) m k
  rw [e] at this
  exact this
theorem bdF_less {N : Nat → Int32} {l m n k : Nat} (h : m ≤ n) : bdF N l m k = match bdF N l n k with
    | none => none
    | some B => if B < k + m then some B else none := by
  cases e : bdF N l n k with
  | none =>
    have q := bdF_none e
    cases e2 : bdF N l m k with
    | none => rfl
    | some B =>
      obtain ⟨x1, x2, x3, x4⟩ := bdF_some e2
      exact absurd (q B x1 (by omega)) x3
  | some B =>
    obtain ⟨q1, q2, q3, q4⟩ := bdF_some e
    simp only
    cases e2 : bdF N l m k with
    | none =>
      have x := bdF_none e2
      by_cases d : B < k + m
      · exact absurd (x B q1 d) q3
      · rw [if_neg d]
    | some D =>
      obtain ⟨x1, x2, x3, x4⟩ := bdF_some e2
      rcases Nat.lt_trichotomy B D with d | d | d
      · exact absurd (x4 B q1 d) q3
      · subst d; rw [if_pos x2]
      · exact absurd (q4 D x1 d) x3
/-- up to which place restores come out as done -/
def en (N : Nat → Int32) (c l : Nat) : Nat := if fc N c l (tp N l) = 0 then tp N l else match bd N l (fc N c l (tp N l)) (tp N l) with
  | none => tp N l
  | some B => max (fc N c l (tp N l) - 1) (B * wd N)
def oc3 (N : Nat → Int32) (c l p : Nat) : Nat := if fc N c l p = 0 then 0 else match bd N l (fc N c l p) p with
  | none => 0
  | some B => hin N (hd N l B) B
theorem oc3_v {N : Nat → Int32} {c l p : Nat} : oc3 N c l p = 0 ∨ oc3 N c l p = 4 ∨ oc3 N c l p = 5 := by
  unfold oc3
  split
  · exact Or.inl rfl
  · split
    · exact Or.inl rfl
    · unfold hin
      split
      · exact Or.inr (Or.inr rfl)
      · split
        · exact Or.inl rfl
        · exact Or.inr (Or.inl rfl)
theorem oc3_en {N : Nat → Int32} (h : NN N) {c l p : Nat} (hp : p ≤ tp N l) : if p ≤ en N c l then oc3 N c l p = 0 else fc N c l p ≠ 0 ∧ fc N c l p = fc N c l (tp N l) ∧ ∃ B, bd N l (fc N c l p) p = some B ∧ bd N l (fc N c l (tp N l)) (tp N l) = some B ∧ oc3 N c l p = hin N (hd N l B) B ∧ hin N (hd N l B) B ≠ 0 := by
  obtain ⟨b1, b2, b3, b4, b5, b6, b7, b8⟩ := NNb h
  have e := fc_sub (N := N) (c := c) (l := l) hp
  have hfl := fc_le (N := N) (c := c) (l := l) (p := tp N l)
  unfold en oc3
  by_cases f0 : fc N c l (tp N l) = 0
  · rw [if_pos (Or.inl f0)] at e
    rw [if_pos f0, if_pos hp, if_pos e]
  · rw [if_neg f0]
    by_cases pf : p < fc N c l (tp N l)
    · rw [if_pos (Or.inr pf)] at e
      rw [if_pos e]
      cases d : bd N l (fc N c l (tp N l)) (tp N l) with
      | none => dsimp only; rw [if_pos hp]
      | some B => dsimp only; rw [if_pos (by omega)]
    · rw [if_neg (by omega)] at e
      rw [e, if_neg f0]
      generalize hf : fc N c l (tp N l) = f at *
      have hm : (p - 1) / wd N ≤ (tp N l - 1) / wd N := Nat.div_le_div_right (by omega)
      have hm2 : (f - 1) / wd N ≤ (p - 1) / wd N := Nat.div_le_div_right (by omega)
      have hb : bd N l f p = _ := bdF_less (N := N) (l := l) (n := (tp N l - 1) / wd N + 1 - (f - 1) / wd N) (m := (p - 1) / wd N + 1 - (f - 1) / wd N) (k := (f - 1) / wd N) (by omega)
      cases d : bd N l f (tp N l) with
      | none =>
        have d' : bdF N l ((tp N l - 1) / wd N + 1 - (f - 1) / wd N) ((f - 1) / wd N) = none := d
        rw [d'] at hb
        rw [hb]
        dsimp only
        rw [if_pos hp]
      | some B =>
        have d' : bdF N l ((tp N l - 1) / wd N + 1 - (f - 1) / wd N) ((f - 1) / wd N) = some B := d
        rw [d'] at hb
        simp only at hb
        have hBw := Nat.le_div_iff_mul_le (x := B) (y := p - 1) (show 0 < wd N by omega)
        obtain ⟨x1, x2, x3, x4⟩ := bdF_some d'
        dsimp only
        by_cases q : B * wd N < p
        · have q2 : B < (f - 1) / wd N + ((p - 1) / wd N + 1 - (f - 1) / wd N) := by
            have := hBw.mpr (by omega)
            omega
          rw [if_pos q2] at hb
          rw [if_neg (by omega), hb]
          exact ⟨f0, rfl, B, rfl, rfl, rfl, x3⟩
        · have q2 : ¬ B < (f - 1) / wd N + ((p - 1) / wd N + 1 - (f - 1) / wd N) := fun q3 => by
            have := hBw.mp (by omega)
            omega
          rw [if_neg q2] at hb
          rw [if_pos (by omega), hb]
/-- whether a page of a copy is of another branch -/
def bg (N : Nat → Int32) (c l g : Nat) : Bool := match tc N c g with
  | none => true
  | some a => brF N 8 l (tl N a g) (tw N a g)
def abF (N : Nat → Int32) (c l : Nat) : Nat → Bool
  | 0 => false
  | g + 1 => abF N c l g || bg N c l g
theorem abF_up {N : Nat → Int32} {c l g : Nat} (h : abF N c l g = true) : ∀ d, abF N c l (g + d) = true
  | 0 => h
  | d + 1 => by
    have := abF_up h d
    show (abF N c l (g + d) || _) = true
    rw [this, Bool.true_or]
def oc (N : Nat → Int32) (c l p : Nat) : Nat := if abF N c l (pg N) then 2 else if p < ltF N c (pg N) then 3 else oc3 N c l p
/-- how it comes out, whatever is asked -/
def ocx (N : Nat → Int32) (x y z : Int32) : Nat := if isN x (nc N) && hasP N y z then (if ft N x.toNatClampNeg then oc N x.toNatClampNeg y.toNatClampNeg z.toNatClampNeg else 1) else 1
def gd (N : Nat → Int32) (c l p : Nat) : Prop := c < nc N ∧ l < nl N ∧ p ≤ tp N l ∧ ft N c = true ∧ abF N c l (pg N) = false ∧ ltF N c (pg N) ≤ p
theorem ocx_n {N : Nat → Int32} (h : NN N) {c l p : Nat} (hc : c < nc N) (hl : l < nl N) (hp : p ≤ tp N l) : ocx N (nI c) (nI l) (nI p) = if ft N c then oc N c l p else 1 := by
  obtain ⟨b1, b2, b3, b4, b5, b6, b7, b8⟩ := NNb h
  have ht := (h.2.1.1 l hl).2
  unfold ocx
  rw [isN_t hc (by omega), hasP_t h hl hp, n_cl (by omega), n_cl (by omega), n_cl (by omega)]
  rfl
theorem ocx_gd {N : Nat → Int32} (h : NN N) {c l p : Nat} (g : gd N c l p) : ocx N (nI c) (nI l) (nI p) = oc3 N c l p := by
  obtain ⟨g1, g2, g3, g4, g5, g6⟩ := g
  rw [ocx_n h g1 g2 g3, g4, if_pos rfl]
  unfold oc
  rw [g5]
  simp only [Bool.false_eq_true, if_false]
  rw [if_neg (by omega)]
/-- it is not on the way, or all is well -/
theorem ocx_c {N : Nat → Int32} (h : NN N) (x y z : Int32) : (1 ≤ ocx N x y z ∧ ocx N x y z ≤ 3) ∨ ∃ c l p, x = nI c ∧ y = nI l ∧ z = nI p ∧ gd N c l p := by
  obtain ⟨b1, b2, b3, b4, b5, b6, b7, b8⟩ := NNb h
  cases d : isN x (nc N) && hasP N y z
  · refine Or.inl ?_
    unfold ocx
    rw [d]
    simp
  · rw [Bool.and_eq_true] at d
    obtain ⟨c, hc, rfl⟩ := isN_e d.1 (by omega)
    obtain ⟨l, p, hl, hp, ht, rfl, rfl⟩ := hasP_e h d.2
    rw [ocx_n h hc hl hp]
    cases e : ft N c
    · refine Or.inl ?_
      simp
    · simp only [if_true]
      unfold oc
      cases e2 : abF N c l (pg N)
      · simp only [Bool.false_eq_true, if_false]
        by_cases e3 : p < ltF N c (pg N)
        · rw [if_pos e3]; exact Or.inl (by omega)
        · exact Or.inr ⟨c, l, p, rfl, rfl, rfl, hc, hl, hp, e, e2, by omega⟩
      · simp
def fx (v : Int32) (f : Nat) : Int32 := if f = 0 then v else nI f
theorem fx_0 {v : Int32} {f : Nat} (h : f = 0) : fx v f = v := if_pos h
theorem fx_s {v : Int32} {f : Nat} (h : f ≠ 0) : fx v f = nI f := if_neg h
/-! the model -/
theorem t_isAnyBranch {F : Nat} (hF : 20 < F) {τ : St} (h : NN (nw τ)) {c l : Nat} (hc : c < nc (nw τ)) (hl : l < nl (nw τ)) (hf : ft (nw τ) c = true) : f_X8_isAnyBranch F τ (nI c) (nI l) = some (bI (abF (nw τ) c l (pg (nw τ)))) := by
  obtain ⟨b1, b2, b3, b4, b5, b6, b7, b8⟩ := NNb h
  have h0 : τ.2.1 19 0 = nI (pg (nw τ)) := h.1.1.1
  have key : ∀ n g, g ≤ pg (nw τ) → pg (nw τ) - g < n → abF (nw τ) c l g = false → f_X8_isAnyBranch_2 F n τ (nI c) (nI l) (nI g) = some (bI (abF (nw τ) c l (pg (nw τ)))) := by
    intro n
    induction n with
    | zero => intro g _ h; omega
    | succ n ih =>
      intro g hg hn ha
      rw [f_X8_isAnyBranch_2]
      by_cases e : g = pg (nw τ)
      · rw [← e, ha]
        simp (disch := omega) only [↓bnd_i, ↓cal_s, ↓cal_n, ↓cal2_s, ↓cal2_n, cal_s, cal2_s, ↓reduceIte, fa_lit, m1_lit, m2_lit, m1_lt, m2_lt, m1_eq, m2_eq, m1_le, m2_le, le_m1, le_m2, lt_m1, lt_m2, m12, m21, m1_m1, n_lt, n_le, n_eq, lt_t, lt_f, le_t, le_f, eq_t, eq_f, n_cl, inb_ok, n_add, pk_mul, pk_sub, n_rem, n_div, n_dec, n_mx, n_mn, eq_m1, eq_m2, ss_same, ss_ne, ss_r, ss_l, sr_f, sr_l, sr_same, sr_ne, sw_f, sw_l, sw_at, sw_ne, pk_us, pk_un, bI_t, bI_f, not_true_eq_false, not_false_eq_true, eq_self, and_true, true_and, and_false, false_and, or_true, true_or, or_false, false_or, decide_true, decide_false, Bool.false_eq_true, Bool.true_eq_false, h0]
      · obtain ⟨a, d⟩ := ft_some hf (show g < pg (nw τ) by omega)
        obtain ⟨p1, p2, p3, p4, p5, p6, p7, p8⟩ := tc_in h hc (show g < 8 by omega) d
        have p5' : τ.2.1 19 (100 + 4 * (8 * a + g) + 1) = nI (tl (nw τ) a g) := p5
        have p7' : τ.2.1 19 (100 + 4 * (8 * a + g) + 2) = nI (tw (nw τ) a g) := p7
        have q2 := t_takenAt (F := F) hF h hc (show g < 8 by omega)
        rw [d] at q2
        have w2 := t_isBranch (F := F) hF h hl p6 p8
        have hb : bg (nw τ) c l g = brF (nw τ) 8 l (tl (nw τ) a g) (tw (nw τ) a g) := by unfold bg; rw [d]
        cases d2 : brF (nw τ) 8 l (tl (nw τ) a g) (tw (nw τ) a g)
        · rw [d2] at w2
          have ih' := ih (g + 1) (by omega) (by omega) (by rw [abF, ha, hb, d2]; rfl)
          simp (disch := omega) only [↓bnd_i, ↓cal_s, ↓cal_n, ↓cal2_s, ↓cal2_n, cal_s, cal2_s, ↓reduceIte, fa_lit, m1_lit, m2_lit, m1_lt, m2_lt, m1_eq, m2_eq, m1_le, m2_le, le_m1, le_m2, lt_m1, lt_m2, m12, m21, m1_m1, n_lt, n_le, n_eq, lt_t, lt_f, le_t, le_f, eq_t, eq_f, n_cl, inb_ok, n_add, pk_mul, pk_sub, n_rem, n_div, n_dec, n_mx, n_mn, eq_m1, eq_m2, ss_same, ss_ne, ss_r, ss_l, sr_f, sr_l, sr_same, sr_ne, sw_f, sw_l, sw_at, sw_ne, pk_us, pk_un, bI_t, bI_f, not_true_eq_false, not_false_eq_true, eq_self, and_true, true_and, and_false, false_and, or_true, true_or, or_false, false_or, decide_true, decide_false, Bool.false_eq_true, Bool.true_eq_false, ↓cal_w (q2), q2, ↓cal_w (w2), w2, h0, ta, p5', p7']
          exact ih'
        · rw [d2] at w2
          have hu := abF_up (N := nw τ) (c := c) (l := l) (g := g + 1) (by rw [abF, hb, d2, Bool.or_true]) (pg (nw τ) - (g + 1))
          rw [show g + 1 + (pg (nw τ) - (g + 1)) = pg (nw τ) by omega] at hu
          rw [hu]
          simp (disch := omega) only [↓bnd_i, ↓cal_s, ↓cal_n, ↓cal2_s, ↓cal2_n, cal_s, cal2_s, ↓reduceIte, fa_lit, m1_lit, m2_lit, m1_lt, m2_lt, m1_eq, m2_eq, m1_le, m2_le, le_m1, le_m2, lt_m1, lt_m2, m12, m21, m1_m1, n_lt, n_le, n_eq, lt_t, lt_f, le_t, le_f, eq_t, eq_f, n_cl, inb_ok, n_add, pk_mul, pk_sub, n_rem, n_div, n_dec, n_mx, n_mn, eq_m1, eq_m2, ss_same, ss_ne, ss_r, ss_l, sr_f, sr_l, sr_same, sr_ne, sw_f, sw_l, sw_at, sw_ne, pk_us, pk_un, bI_t, bI_f, not_true_eq_false, not_false_eq_true, eq_self, and_true, true_and, and_false, false_and, or_true, true_or, or_false, false_or, decide_true, decide_false, Bool.false_eq_true, Bool.true_eq_false, ↓cal_w (q2), q2, ↓cal_w (w2), w2, h0, ta, p5', p7']
  exact key F 0 (by omega) (by omega) rfl
theorem t_firstChange {F : Nat} (hF : 300 < F) {τ : St} (h : NN (nw τ)) {c l p : Nat} (hc : c < nc (nw τ)) (hl : l < nl (nw τ)) (hp : p ≤ tp (nw τ) l) (hf : ft (nw τ) c = true) : f_X8_firstChange F τ (nI c) (nI l) (nI p) = some (fx m1 (fc (nw τ) c l p)) := by
  obtain ⟨b1, b2, b3, b4, b5, b6, b7, b8⟩ := NNb h
  have ht := (h.2.1.1 l hl).2
  have key : ∀ m i n, 1 ≤ i → i + m = p + 1 → m < n → f_X8_firstChange_3 F n τ (nI c) (nI l) (nI p) (nI i) = some (fx m1 (fcF (nw τ) c l m i)) := by
    intro m
    induction m with
    | zero =>
      intro i n hi he hn
      obtain ⟨n, rfl⟩ : ∃ k, n = k + 1 := ⟨n - 1, by omega⟩
      rw [f_X8_firstChange_3, show fcF (nw τ) c l 0 i = 0 from rfl, fx_0 rfl]
      simp (disch := omega) only [↓bnd_i, ↓cal_s, ↓cal_n, ↓cal2_s, ↓cal2_n, cal_s, cal2_s, ↓reduceIte, fa_lit, m1_lit, m2_lit, m1_lt, m2_lt, m1_eq, m2_eq, m1_le, m2_le, le_m1, le_m2, lt_m1, lt_m2, m12, m21, m1_m1, n_lt, n_le, n_eq, lt_t, lt_f, le_t, le_f, eq_t, eq_f, n_cl, inb_ok, n_add, pk_mul, pk_sub, n_rem, n_div, n_dec, n_mx, n_mn, eq_m1, eq_m2, ss_same, ss_ne, ss_r, ss_l, sr_f, sr_l, sr_same, sr_ne, sw_f, sw_l, sw_at, sw_ne, pk_us, pk_un, bI_t, bI_f, not_true_eq_false, not_false_eq_true, eq_self, and_true, true_and, and_false, false_and, or_true, true_or, or_false, false_or, decide_true, decide_false, Bool.false_eq_true, Bool.true_eq_false]
    | succ m ih =>
      intro i n hi he hn
      obtain ⟨n, rfl⟩ : ∃ k, n = k + 1 := ⟨n - 1, by omega⟩
      have ih' := ih (i + 1) n (by omega) (by omega) (by omega)
      have tcb := t_changedBy (F := F) h.1 h.2.1 (show 8 < F by omega) hl (show i ≤ 240 by omega)
      rw [f_X8_firstChange_3, fcF_s]
      rcases chg_in h hl hi (show i ≤ tp (nw τ) l by omega) with e | ⟨g, hg, e⟩
      · rw [bh_n e]
        rw [e] at tcb
        simp (disch := omega) only [↓bnd_i, ↓cal_s, ↓cal_n, ↓cal2_s, ↓cal2_n, cal_s, cal2_s, ↓reduceIte, fa_lit, m1_lit, m2_lit, m1_lt, m2_lt, m1_eq, m2_eq, m1_le, m2_le, le_m1, le_m2, lt_m1, lt_m2, m12, m21, m1_m1, n_lt, n_le, n_eq, lt_t, lt_f, le_t, le_f, eq_t, eq_f, n_cl, inb_ok, n_add, pk_mul, pk_sub, n_rem, n_div, n_dec, n_mx, n_mn, eq_m1, eq_m2, ss_same, ss_ne, ss_r, ss_l, sr_f, sr_l, sr_same, sr_ne, sw_f, sw_l, sw_at, sw_ne, pk_us, pk_un, bI_t, bI_f, not_true_eq_false, not_false_eq_true, eq_self, and_true, true_and, and_false, false_and, or_true, true_or, or_false, false_or, decide_true, decide_false, Bool.false_eq_true, Bool.true_eq_false, ↓cal_w (tcb), tcb, f_X8_firstChange_45]
        exact ih'
      · rw [bh_g (by omega) e]
        rw [e] at tcb
        obtain ⟨a, d⟩ := ft_some hf hg
        obtain ⟨p1, p2, p3, p4, p5, p6, p7, p8⟩ := tc_in h hc (show g < 8 by omega) d
        have p7' : τ.2.1 19 (100 + 4 * (8 * a + g) + 2) = nI (tw (nw τ) a g) := p7
        have hs : sc (nw τ) c g = tw (nw τ) a g := by unfold sc; rw [d]
        have q2 := t_takenAt (F := F) (by omega) h hc (show g < 8 by omega)
        rw [d] at q2
        rw [hs]
        by_cases d2 : tw (nw τ) a g < i
        · rw [decide_eq_true d2, if_pos rfl, fx_s (by omega)]
          simp (disch := omega) only [↓bnd_i, ↓cal_s, ↓cal_n, ↓cal2_s, ↓cal2_n, cal_s, cal2_s, ↓reduceIte, fa_lit, m1_lit, m2_lit, m1_lt, m2_lt, m1_eq, m2_eq, m1_le, m2_le, le_m1, le_m2, lt_m1, lt_m2, m12, m21, m1_m1, n_lt, n_le, n_eq, lt_t, lt_f, le_t, le_f, eq_t, eq_f, n_cl, inb_ok, n_add, pk_mul, pk_sub, n_rem, n_div, n_dec, n_mx, n_mn, eq_m1, eq_m2, ss_same, ss_ne, ss_r, ss_l, sr_f, sr_l, sr_same, sr_ne, sw_f, sw_l, sw_at, sw_ne, pk_us, pk_un, bI_t, bI_f, not_true_eq_false, not_false_eq_true, eq_self, and_true, true_and, and_false, false_and, or_true, true_or, or_false, false_or, decide_true, decide_false, Bool.false_eq_true, Bool.true_eq_false, ↓cal_w (tcb), tcb, ↓cal_w (q2), q2, ta, p7']
        · rw [decide_eq_false d2]
          simp (disch := omega) only [↓bnd_i, ↓cal_s, ↓cal_n, ↓cal2_s, ↓cal2_n, cal_s, cal2_s, ↓reduceIte, fa_lit, m1_lit, m2_lit, m1_lt, m2_lt, m1_eq, m2_eq, m1_le, m2_le, le_m1, le_m2, lt_m1, lt_m2, m12, m21, m1_m1, n_lt, n_le, n_eq, lt_t, lt_f, le_t, le_f, eq_t, eq_f, n_cl, inb_ok, n_add, pk_mul, pk_sub, n_rem, n_div, n_dec, n_mx, n_mn, eq_m1, eq_m2, ss_same, ss_ne, ss_r, ss_l, sr_f, sr_l, sr_same, sr_ne, sw_f, sw_l, sw_at, sw_ne, pk_us, pk_un, bI_t, bI_f, not_true_eq_false, not_false_eq_true, eq_self, and_true, true_and, and_false, false_and, or_true, true_or, or_false, false_or, decide_true, decide_false, Bool.false_eq_true, Bool.true_eq_false, ↓cal_w (tcb), tcb, ↓cal_w (q2), q2, ta, p7', f_X8_firstChange_45]
          exact ih'
  exact key p 1 F (by omega) (by omega) (by omega)
theorem hin_ah {N : Nat → Int32} {l k : Nat} : hin N l k = 0 ↔ ah N l k = true ∧ kp N l k ≠ 3 := by
  unfold hin
  by_cases c3 : kp N l k = 3
  · simp [c3]
  · cases ah N l k <;> simp [c3]
theorem ah_3 {N : Nat → Int32} {l k : Nat} (h : kp N l k = 3) : ah N l k = true := decide_eq_true (Or.inl (by omega))
theorem t_comesOutL {F : Nat} (hF : 300 < F) {N : Nat → Int32} (h : NN N) {l p : Nat} (hl : l < nl N) (hp1 : 1 ≤ p) (hp : p ≤ tp N l) : ∀ (m k n : Nat) (t : St), nw t = N → k + m = (p - 1) / wd N + 1 → m < n → ∃ t', f_X8_comesOut__79 F n t (nI l) (nI p) (nI k) = some (nI (match bdF N l m k with
    | none => 0
    | some B => hin N (hd N l B) B), t') ∧ FrM t t' ∧ nw t' = N ∧ t'.1 15 = t.1 15 ∧ ∀ B, bdF N l m k = some B → t'.1 16 = nI (hd N l B) ∧ t'.1 17 = nI B := by
  obtain ⟨b1, b2, b3, b4, b5, b6, b7, b8⟩ := NNb h
  have ht := (h.2.1.1 l hl).2
  have hd120 := div120 (p := p) (w := wd N) (by omega) b3 hp1
  intro m
  induction m with
  | zero =>
    intro k n t hN hk hn
    obtain ⟨n, rfl⟩ : ∃ k, n = k + 1 := ⟨n - 1, by omega⟩
    subst hN
    rw [f_X8_comesOut__79]
    refine ⟨t, ?_, FrM.refl t, rfl, rfl, fun B e => by cases e⟩
    simp (disch := omega) only [↓bnd_i, ↓cal_s, ↓cal_n, ↓cal2_s, ↓cal2_n, cal_s, cal2_s, ↓reduceIte, fa_lit, m1_lit, m2_lit, m1_lt, m2_lt, m1_eq, m2_eq, m1_le, m2_le, le_m1, le_m2, lt_m1, lt_m2, m12, m21, m1_m1, n_lt, n_le, n_eq, lt_t, lt_f, le_t, le_f, eq_t, eq_f, n_cl, inb_ok, n_add, pk_mul, pk_sub, n_rem, n_div, n_dec, n_mx, n_mn, eq_m1, eq_m2, ss_same, ss_ne, ss_r, ss_l, sr_f, sr_l, sr_same, sr_ne, sw_f, sw_l, sw_at, sw_ne, pk_us, pk_un, bI_t, bI_f, not_true_eq_false, not_false_eq_true, eq_self, and_true, true_and, and_false, false_and, or_true, true_or, or_false, false_or, decide_true, decide_false, Bool.false_eq_true, Bool.true_eq_false, ↓cal_w (t_pieceOf h.1 hp1 (show p < 2 ^ 31 by omega)), t_pieceOf h.1 hp1 (show p < 2 ^ 31 by omega), bdF]
  | succ m ih =>
    intro k n t hN hk hn
    obtain ⟨n, rfl⟩ : ∃ k, n = k + 1 := ⟨n - 1, by omega⟩
    have hkl := hd_lt h (k := k) hl
    rw [f_X8_comesOut__79, bdF_s]
    have hN2 : nw (ss (ss t 16 (nI (hd N l k))) 17 (nI k)) = N := hN
    have f1 : FrM t (ss (ss t 16 (nI (hd N l k))) 17 (nI k)) := ((FrM.refl t).ss (by omega) (by omega)).ss (by omega) (by omega)
    generalize hu : ss (ss t 16 (nI (hd N l k))) 17 (nI k) = u at hN2 f1
    have u15 : u.1 15 = t.1 15 := by rw [← hu, ss_ne (by omega), ss_ne (by omega)]
    have u16 : u.1 16 = nI (hd N l k) := by rw [← hu, ss_ne (by omega), ss_same]
    have u17 : u.1 17 = nI k := by rw [← hu, ss_same]
    have hNt : NN (nw t) := by rw [hN]; exact h
    have hNu : NN (nw u) := by rw [hN2]; exact h
    have w1 := t_pieceOf (F := F) hNt.1 hp1 (show p < 2 ^ 31 by omega)
    have w2 := t_holderOf (F := F) (by omega) hNt (l := l) (k := k) (by rw [hN]; exact hl) (by omega)
    have w3 := t_isAtHand (F := F) hNu (l := hd N l k) (k := k) (by rw [hN2]; omega) (by omega)
    have w4 := t_keptOf (F := F) hNu (l := hd N l k) (k := k) (by omega) (by omega)
    rw [hN] at w1 w2
    rw [hN2] at w3 w4
    have hk4 := (h.2.2.1.1 (hd N l k) k (by omega) (by omega)).2
    by_cases d : hin N (hd N l k) k = 0
    · rw [if_pos d]
      obtain ⟨d1, d2⟩ := hin_ah.mp d
      rw [d1] at w3
      obtain ⟨t', x1, x2, x3, x4, x5⟩ := ih (k + 1) n u hN2 (by omega) (by omega)
      refine ⟨t', ?_, f1.trans x2, x3, by rw [x4, u15], x5⟩
      simp (disch := omega) only [↓bnd_i, ↓cal_s, ↓cal_n, ↓cal2_s, ↓cal2_n, cal_s, cal2_s, ↓reduceIte, fa_lit, m1_lit, m2_lit, m1_lt, m2_lt, m1_eq, m2_eq, m1_le, m2_le, le_m1, le_m2, lt_m1, lt_m2, m12, m21, m1_m1, n_lt, n_le, n_eq, lt_t, lt_f, le_t, le_f, eq_t, eq_f, n_cl, inb_ok, n_add, pk_mul, pk_sub, n_rem, n_div, n_dec, n_mx, n_mn, eq_m1, eq_m2, ss_same, ss_ne, ss_r, ss_l, sr_f, sr_l, sr_same, sr_ne, sw_f, sw_l, sw_at, sw_ne, pk_us, pk_un, bI_t, bI_f, not_true_eq_false, not_false_eq_true, eq_self, and_true, true_and, and_false, false_and, or_true, true_or, or_false, false_or, decide_true, decide_false, Bool.false_eq_true, Bool.true_eq_false, ↓cal_w (w1), w1, ↓cal_w (w2), w2, hu]
      simp (disch := omega) only [↓bnd_i, ↓cal_s, ↓cal_n, ↓cal2_s, ↓cal2_n, cal_s, cal2_s, ↓reduceIte, fa_lit, m1_lit, m2_lit, m1_lt, m2_lt, m1_eq, m2_eq, m1_le, m2_le, le_m1, le_m2, lt_m1, lt_m2, m12, m21, m1_m1, n_lt, n_le, n_eq, lt_t, lt_f, le_t, le_f, eq_t, eq_f, n_cl, inb_ok, n_add, pk_mul, pk_sub, n_rem, n_div, n_dec, n_mx, n_mn, eq_m1, eq_m2, ss_same, ss_ne, ss_r, ss_l, sr_f, sr_l, sr_same, sr_ne, sw_f, sw_l, sw_at, sw_ne, pk_us, pk_un, bI_t, bI_f, not_true_eq_false, not_false_eq_true, eq_self, and_true, true_and, and_false, false_and, or_true, true_or, or_false, false_or, decide_true, decide_false, Bool.false_eq_true, Bool.true_eq_false, ↓cal_w (w3), w3, ↓cal_w (w4), w4, u16]
      exact x1
    · rw [if_neg d]
      refine ⟨u, ?_, f1, hN2, u15, fun B e => by cases e; exact ⟨u16, u17⟩⟩
      cases d1 : ah N (hd N l k) k
      · rw [d1] at w3
        have := hin4.mpr d1
        simp (disch := omega) only [↓bnd_i, ↓cal_s, ↓cal_n, ↓cal2_s, ↓cal2_n, cal_s, cal2_s, ↓reduceIte, fa_lit, m1_lit, m2_lit, m1_lt, m2_lt, m1_eq, m2_eq, m1_le, m2_le, le_m1, le_m2, lt_m1, lt_m2, m12, m21, m1_m1, n_lt, n_le, n_eq, lt_t, lt_f, le_t, le_f, eq_t, eq_f, n_cl, inb_ok, n_add, pk_mul, pk_sub, n_rem, n_div, n_dec, n_mx, n_mn, eq_m1, eq_m2, ss_same, ss_ne, ss_r, ss_l, sr_f, sr_l, sr_same, sr_ne, sw_f, sw_l, sw_at, sw_ne, pk_us, pk_un, bI_t, bI_f, not_true_eq_false, not_false_eq_true, eq_self, and_true, true_and, and_false, false_and, or_true, true_or, or_false, false_or, decide_true, decide_false, Bool.false_eq_true, Bool.true_eq_false, ↓cal_w (w1), w1, ↓cal_w (w2), w2, hu]
        simp (disch := omega) only [↓bnd_i, ↓cal_s, ↓cal_n, ↓cal2_s, ↓cal2_n, cal_s, cal2_s, ↓reduceIte, fa_lit, m1_lit, m2_lit, m1_lt, m2_lt, m1_eq, m2_eq, m1_le, m2_le, le_m1, le_m2, lt_m1, lt_m2, m12, m21, m1_m1, n_lt, n_le, n_eq, lt_t, lt_f, le_t, le_f, eq_t, eq_f, n_cl, inb_ok, n_add, pk_mul, pk_sub, n_rem, n_div, n_dec, n_mx, n_mn, eq_m1, eq_m2, ss_same, ss_ne, ss_r, ss_l, sr_f, sr_l, sr_same, sr_ne, sw_f, sw_l, sw_at, sw_ne, pk_us, pk_un, bI_t, bI_f, not_true_eq_false, not_false_eq_true, eq_self, and_true, true_and, and_false, false_and, or_true, true_or, or_false, false_or, decide_true, decide_false, Bool.false_eq_true, Bool.true_eq_false, ↓cal_w (w3), w3, ↓cal_w (w4), w4, u16, this]
      · rw [d1] at w3
        have d2 : kp N (hd N l k) k = 3 := by
          by_cases d3 : kp N (hd N l k) k = 3
          · exact d3
          · exact absurd (hin_ah.mpr ⟨d1, d3⟩) d
        have d4 : hin N (hd N l k) k = 5 := by unfold hin; rw [if_pos d2]
        simp (disch := omega) only [↓bnd_i, ↓cal_s, ↓cal_n, ↓cal2_s, ↓cal2_n, cal_s, cal2_s, ↓reduceIte, fa_lit, m1_lit, m2_lit, m1_lt, m2_lt, m1_eq, m2_eq, m1_le, m2_le, le_m1, le_m2, lt_m1, lt_m2, m12, m21, m1_m1, n_lt, n_le, n_eq, lt_t, lt_f, le_t, le_f, eq_t, eq_f, n_cl, inb_ok, n_add, pk_mul, pk_sub, n_rem, n_div, n_dec, n_mx, n_mn, eq_m1, eq_m2, ss_same, ss_ne, ss_r, ss_l, sr_f, sr_l, sr_same, sr_ne, sw_f, sw_l, sw_at, sw_ne, pk_us, pk_un, bI_t, bI_f, not_true_eq_false, not_false_eq_true, eq_self, and_true, true_and, and_false, false_and, or_true, true_or, or_false, false_or, decide_true, decide_false, Bool.false_eq_true, Bool.true_eq_false, ↓cal_w (w1), w1, ↓cal_w (w2), w2, hu]
        simp (disch := omega) only [↓bnd_i, ↓cal_s, ↓cal_n, ↓cal2_s, ↓cal2_n, cal_s, cal2_s, ↓reduceIte, fa_lit, m1_lit, m2_lit, m1_lt, m2_lt, m1_eq, m2_eq, m1_le, m2_le, le_m1, le_m2, lt_m1, lt_m2, m12, m21, m1_m1, n_lt, n_le, n_eq, lt_t, lt_f, le_t, le_f, eq_t, eq_f, n_cl, inb_ok, n_add, pk_mul, pk_sub, n_rem, n_div, n_dec, n_mx, n_mn, eq_m1, eq_m2, ss_same, ss_ne, ss_r, ss_l, sr_f, sr_l, sr_same, sr_ne, sw_f, sw_l, sw_at, sw_ne, pk_us, pk_un, bI_t, bI_f, not_true_eq_false, not_false_eq_true, eq_self, and_true, true_and, and_false, false_and, or_true, true_or, or_false, false_or, decide_true, decide_false, Bool.false_eq_true, Bool.true_eq_false, ↓cal_w (w3), w3, ↓cal_w (w4), w4, u16, d2, d4]
theorem t_comesOut {F : Nat} (hF : 300 < F) {τ : St} (h : NN (nw τ)) (x y z : Int32) : ∃ t', f_X8_comesOut_ F τ x y z = some (nI (ocx (nw τ) x y z), t') ∧ FrM τ t' ∧ nw t' = nw τ ∧ ∀ c l p, x = nI c → y = nI l → z = nI p → gd (nw τ) c l p → t'.1 15 = fx m1 (fc (nw τ) c l p) ∧ ∀ B, fc (nw τ) c l p ≠ 0 → bd (nw τ) l (fc (nw τ) c l p) p = some B → t'.1 16 = nI (hd (nw τ) l B) ∧ t'.1 17 = nI B := by
  obtain ⟨b1, b2, b3, b4, b5, b6, b7, b8⟩ := NNb h
  have no : ¬ (∃ c l p, x = nI c ∧ y = nI l ∧ z = nI p ∧ gd (nw τ) c l p) → f_X8_comesOut_ F τ x y z = some (nI (ocx (nw τ) x y z), τ) → ∃ t', f_X8_comesOut_ F τ x y z = some (nI (ocx (nw τ) x y z), t') ∧ FrM τ t' ∧ nw t' = nw τ ∧ ∀ c l p, x = nI c → y = nI l → z = nI p → gd (nw τ) c l p → t'.1 15 = fx m1 (fc (nw τ) c l p) ∧ ∀ B, fc (nw τ) c l p ≠ 0 → bd (nw τ) l (fc (nw τ) c l p) p = some B → t'.1 16 = nI (hd (nw τ) l B) ∧ t'.1 17 = nI B :=
    fun n e => ⟨τ, e, FrM.refl τ, rfl, fun c l p e1 e2 e3 g => absurd ⟨c, l, p, e1, e2, e3, g⟩ n⟩
  have gne : ∀ {c l p}, x = nI c → y = nI l → z = nI p → gd (nw τ) c l p → isN x (nc (nw τ)) = true ∧ hasP (nw τ) y z = true := by
    intro c l p e1 e2 e3 g
    rw [e1, e2, e3]
    exact ⟨isN_t g.1 (by omega), hasP_t h g.2.1 g.2.2.1⟩
  cases c : isN x (nc (nw τ))
  · refine no (fun ⟨a, l, p, e1, e2, e3, g⟩ => by rw [(gne e1 e2 e3 g).1] at c; cases c) ?_
    have : ocx (nw τ) x y z = 1 := by unfold ocx; rw [c]; rfl
    rw [this]
    unfold f_X8_comesOut_
    simp (disch := omega) only [↓bnd_i, ↓cal_s, ↓cal_n, ↓cal2_s, ↓cal2_n, cal_s, cal2_s, ↓reduceIte, fa_lit, m1_lit, m2_lit, m1_lt, m2_lt, m1_eq, m2_eq, m1_le, m2_le, le_m1, le_m2, lt_m1, lt_m2, m12, m21, m1_m1, n_lt, n_le, n_eq, lt_t, lt_f, le_t, le_f, eq_t, eq_f, n_cl, inb_ok, n_add, pk_mul, pk_sub, n_rem, n_div, n_dec, n_mx, n_mn, eq_m1, eq_m2, ss_same, ss_ne, ss_r, ss_l, sr_f, sr_l, sr_same, sr_ne, sw_f, sw_l, sw_at, sw_ne, pk_us, pk_un, bI_t, bI_f, not_true_eq_false, not_false_eq_true, eq_self, and_true, true_and, and_false, false_and, or_true, true_or, or_false, false_or, decide_true, decide_false, Bool.false_eq_true, Bool.true_eq_false, ↓cal_w (t_isCopy h.1 x), t_isCopy h.1 x, c]
  · cases d : hasP (nw τ) y z
    · refine no (fun ⟨a, l, p, e1, e2, e3, g⟩ => by rw [(gne e1 e2 e3 g).2] at d; cases d) ?_
      have : ocx (nw τ) x y z = 1 := by unfold ocx; rw [c, d]; rfl
      rw [this]
      unfold f_X8_comesOut_
      simp (disch := omega) only [↓bnd_i, ↓cal_s, ↓cal_n, ↓cal2_s, ↓cal2_n, cal_s, cal2_s, ↓reduceIte, fa_lit, m1_lit, m2_lit, m1_lt, m2_lt, m1_eq, m2_eq, m1_le, m2_le, le_m1, le_m2, lt_m1, lt_m2, m12, m21, m1_m1, n_lt, n_le, n_eq, lt_t, lt_f, le_t, le_f, eq_t, eq_f, n_cl, inb_ok, n_add, pk_mul, pk_sub, n_rem, n_div, n_dec, n_mx, n_mn, eq_m1, eq_m2, ss_same, ss_ne, ss_r, ss_l, sr_f, sr_l, sr_same, sr_ne, sw_f, sw_l, sw_at, sw_ne, pk_us, pk_un, bI_t, bI_f, not_true_eq_false, not_false_eq_true, eq_self, and_true, true_and, and_false, false_and, or_true, true_or, or_false, false_or, decide_true, decide_false, Bool.false_eq_true, Bool.true_eq_false, ↓cal_w (t_isCopy h.1 x), t_isCopy h.1 x, ↓cal_w (t_isAt h y z), t_isAt h y z, c, d]
    · obtain ⟨a, ha, rfl⟩ := isN_e c (by omega)
      obtain ⟨l, p, hl, hp, ht, rfl, rfl⟩ := hasP_e h d
      have inj : ∀ {c' l' p'}, nI a = nI c' → nI l = nI l' → nI p = nI p' → gd (nw τ) c' l' p' → a = c' ∧ l = l' ∧ p = p' := by
        intro c' l' p' e1 e2 e3 g
        obtain ⟨g1, g2, g3, -⟩ := g
        have := (h.2.1.1 l' g2).2
        rw [n_eq (by omega) (by omega)] at e1 e2 e3
        exact ⟨e1, e2, e3⟩
      have ho := ocx_n h ha hl hp
      cases e : ft (nw τ) a
      · refine no (fun ⟨c', l', p', e1, e2, e3, g⟩ => by
          obtain ⟨rfl, rfl, rfl⟩ := inj e1 e2 e3 g
          rw [g.2.2.2.1] at e; cases e) ?_
        rw [ho, e]
        unfold f_X8_comesOut_
        simp (disch := omega) only [↓bnd_i, ↓cal_s, ↓cal_n, ↓cal2_s, ↓cal2_n, cal_s, cal2_s, ↓reduceIte, fa_lit, m1_lit, m2_lit, m1_lt, m2_lt, m1_eq, m2_eq, m1_le, m2_le, le_m1, le_m2, lt_m1, lt_m2, m12, m21, m1_m1, n_lt, n_le, n_eq, lt_t, lt_f, le_t, le_f, eq_t, eq_f, n_cl, inb_ok, n_add, pk_mul, pk_sub, n_rem, n_div, n_dec, n_mx, n_mn, eq_m1, eq_m2, ss_same, ss_ne, ss_r, ss_l, sr_f, sr_l, sr_same, sr_ne, sw_f, sw_l, sw_at, sw_ne, pk_us, pk_un, bI_t, bI_f, not_true_eq_false, not_false_eq_true, eq_self, and_true, true_and, and_false, false_and, or_true, true_or, or_false, false_or, decide_true, decide_false, Bool.false_eq_true, Bool.true_eq_false, ↓cal_w (t_isCopy h.1 _), t_isCopy h.1 _, ↓cal_w (t_isAt h _ _), t_isAt h _ _, ↓cal_w (t_isFit (show 20 < F by omega) h ha), t_isFit (show 20 < F by omega) h ha, c, d, e]
      · rw [e, if_pos rfl] at ho
        unfold oc at ho
        cases e2 : abF (nw τ) a l (pg (nw τ))
        · rw [e2] at ho
          simp only [Bool.false_eq_true, if_false] at ho
          have hlt := ltF_le h ha (pg (nw τ)) (by omega)
          by_cases e3 : p < ltF (nw τ) a (pg (nw τ))
          · refine no (fun ⟨c', l', p', x1, x2, x3, g⟩ => by
              obtain ⟨rfl, rfl, rfl⟩ := inj x1 x2 x3 g
              have := g.2.2.2.2.2
              omega) ?_
            rw [ho, if_pos e3]
            unfold f_X8_comesOut_
            simp (disch := omega) only [↓bnd_i, ↓cal_s, ↓cal_n, ↓cal2_s, ↓cal2_n, cal_s, cal2_s, ↓reduceIte, fa_lit, m1_lit, m2_lit, m1_lt, m2_lt, m1_eq, m2_eq, m1_le, m2_le, le_m1, le_m2, lt_m1, lt_m2, m12, m21, m1_m1, n_lt, n_le, n_eq, lt_t, lt_f, le_t, le_f, eq_t, eq_f, n_cl, inb_ok, n_add, pk_mul, pk_sub, n_rem, n_div, n_dec, n_mx, n_mn, eq_m1, eq_m2, ss_same, ss_ne, ss_r, ss_l, sr_f, sr_l, sr_same, sr_ne, sw_f, sw_l, sw_at, sw_ne, pk_us, pk_un, bI_t, bI_f, not_true_eq_false, not_false_eq_true, eq_self, and_true, true_and, and_false, false_and, or_true, true_or, or_false, false_or, decide_true, decide_false, Bool.false_eq_true, Bool.true_eq_false, ↓cal_w (t_isCopy h.1 _), t_isCopy h.1 _, ↓cal_w (t_isAt h _ _), t_isAt h _ _, ↓cal_w (t_isFit (show 20 < F by omega) h ha), t_isFit (show 20 < F by omega) h ha, ↓cal_w (t_isAnyBranch (show 20 < F by omega) h ha hl e), t_isAnyBranch (show 20 < F by omega) h ha hl e, ↓cal_w (t_latestTaken (show 20 < F by omega) h ha e), t_latestTaken (show 20 < F by omega) h ha e, c, d, e, e2]
          · rw [if_neg e3] at ho
            rw [ho]
            have hff := t_firstChange hF h ha hl hp e
            have hfl := fc_le (N := nw τ) (c := a) (l := l) (p := p)
            unfold oc3
            by_cases f0 : fc (nw τ) a l p = 0
            · rw [if_pos f0]
              rw [fx_0 f0] at hff
              refine ⟨ss τ 15 m1, ?_, (FrM.refl τ).ss (by omega) (by omega), rfl, fun c' l' p' x1 x2 x3 g => ?_⟩
              · unfold f_X8_comesOut_
                simp (disch := omega) only [↓bnd_i, ↓cal_s, ↓cal_n, ↓cal2_s, ↓cal2_n, cal_s, cal2_s, ↓reduceIte, fa_lit, m1_lit, m2_lit, m1_lt, m2_lt, m1_eq, m2_eq, m1_le, m2_le, le_m1, le_m2, lt_m1, lt_m2, m12, m21, m1_m1, n_lt, n_le, n_eq, lt_t, lt_f, le_t, le_f, eq_t, eq_f, n_cl, inb_ok, n_add, pk_mul, pk_sub, n_rem, n_div, n_dec, n_mx, n_mn, eq_m1, eq_m2, ss_same, ss_ne, ss_r, ss_l, sr_f, sr_l, sr_same, sr_ne, sw_f, sw_l, sw_at, sw_ne, pk_us, pk_un, bI_t, bI_f, not_true_eq_false, not_false_eq_true, eq_self, and_true, true_and, and_false, false_and, or_true, true_or, or_false, false_or, decide_true, decide_false, Bool.false_eq_true, Bool.true_eq_false, ↓cal_w (t_isCopy h.1 _), t_isCopy h.1 _, ↓cal_w (t_isAt h _ _), t_isAt h _ _, ↓cal_w (t_isFit (show 20 < F by omega) h ha), t_isFit (show 20 < F by omega) h ha, ↓cal_w (t_isAnyBranch (show 20 < F by omega) h ha hl e), t_isAnyBranch (show 20 < F by omega) h ha hl e, ↓cal_w (t_latestTaken (show 20 < F by omega) h ha e), t_latestTaken (show 20 < F by omega) h ha e, ↓cal_w (hff), hff, c, d, e, e2]
              · obtain ⟨rfl, rfl, rfl⟩ := inj x1 x2 x3 g
                exact ⟨by rw [ss_same, fx_0 f0], fun B f1 => absurd f0 f1⟩
            · rw [if_neg f0]
              rw [fx_s f0] at hff
              have hu : nw (ss τ 15 (nI (fc (nw τ) a l p))) = nw τ := rfl
              have w1 := t_pieceOf (F := F) (τ := ss τ 15 (nI (fc (nw τ) a l p))) h.1 (show 1 ≤ fc (nw τ) a l p by omega) (by omega)
              rw [hu] at w1
              have hm2 : (fc (nw τ) a l p - 1) / wd (nw τ) ≤ (p - 1) / wd (nw τ) := Nat.div_le_div_right (by omega)
              have hd120 := div120 (p := p) (w := wd (nw τ)) (by omega) b3 (by omega)
              have hq0 := Nat.zero_le ((fc (nw τ) a l p - 1) / wd (nw τ))
              obtain ⟨t', x1, x2, x3, x4, x5⟩ := t_comesOutL (F := F) hF h hl (show 1 ≤ p by omega) hp ((p - 1) / wd (nw τ) + 1 - (fc (nw τ) a l p - 1) / wd (nw τ)) ((fc (nw τ) a l p - 1) / wd (nw τ)) F (ss τ 15 (nI (fc (nw τ) a l p))) hu (by omega) (by omega)
              refine ⟨t', ?_, ((FrM.refl τ).ss (by omega) (by omega)).trans x2, x3, fun c' l' p' y1 y2 y3 g => ?_⟩
              · unfold f_X8_comesOut_
                simp (disch := omega) only [↓bnd_i, ↓cal_s, ↓cal_n, ↓cal2_s, ↓cal2_n, cal_s, cal2_s, ↓reduceIte, fa_lit, m1_lit, m2_lit, m1_lt, m2_lt, m1_eq, m2_eq, m1_le, m2_le, le_m1, le_m2, lt_m1, lt_m2, m12, m21, m1_m1, n_lt, n_le, n_eq, lt_t, lt_f, le_t, le_f, eq_t, eq_f, n_cl, inb_ok, n_add, pk_mul, pk_sub, n_rem, n_div, n_dec, n_mx, n_mn, eq_m1, eq_m2, ss_same, ss_ne, ss_r, ss_l, sr_f, sr_l, sr_same, sr_ne, sw_f, sw_l, sw_at, sw_ne, pk_us, pk_un, bI_t, bI_f, not_true_eq_false, not_false_eq_true, eq_self, and_true, true_and, and_false, false_and, or_true, true_or, or_false, false_or, decide_true, decide_false, Bool.false_eq_true, Bool.true_eq_false, ↓cal_w (t_isCopy h.1 _), t_isCopy h.1 _, ↓cal_w (t_isAt h _ _), t_isAt h _ _, ↓cal_w (t_isFit (show 20 < F by omega) h ha), t_isFit (show 20 < F by omega) h ha, ↓cal_w (t_isAnyBranch (show 20 < F by omega) h ha hl e), t_isAnyBranch (show 20 < F by omega) h ha hl e, ↓cal_w (t_latestTaken (show 20 < F by omega) h ha e), t_latestTaken (show 20 < F by omega) h ha e, ↓cal_w (hff), hff, ↓cal_w (w1), w1, c, d, e, e2]
                exact x1
              · obtain ⟨rfl, rfl, rfl⟩ := inj y1 y2 y3 g
                exact ⟨by rw [x4, ss_same, fx_s f0], fun B _ q => x5 B q⟩
        · refine no (fun ⟨c', l', p', x1, x2, x3, g⟩ => by
            obtain ⟨rfl, rfl, rfl⟩ := inj x1 x2 x3 g
            rw [g.2.2.2.2.1] at e2; cases e2) ?_
          rw [ho, e2]
          unfold f_X8_comesOut_
          simp (disch := omega) only [↓bnd_i, ↓cal_s, ↓cal_n, ↓cal2_s, ↓cal2_n, cal_s, cal2_s, ↓reduceIte, fa_lit, m1_lit, m2_lit, m1_lt, m2_lt, m1_eq, m2_eq, m1_le, m2_le, le_m1, le_m2, lt_m1, lt_m2, m12, m21, m1_m1, n_lt, n_le, n_eq, lt_t, lt_f, le_t, le_f, eq_t, eq_f, n_cl, inb_ok, n_add, pk_mul, pk_sub, n_rem, n_div, n_dec, n_mx, n_mn, eq_m1, eq_m2, ss_same, ss_ne, ss_r, ss_l, sr_f, sr_l, sr_same, sr_ne, sw_f, sw_l, sw_at, sw_ne, pk_us, pk_un, bI_t, bI_f, not_true_eq_false, not_false_eq_true, eq_self, and_true, true_and, and_false, false_and, or_true, true_or, or_false, false_or, decide_true, decide_false, Bool.false_eq_true, Bool.true_eq_false, ↓cal_w (t_isCopy h.1 _), t_isCopy h.1 _, ↓cal_w (t_isAt h _ _), t_isAt h _ _, ↓cal_w (t_isFit (show 20 < F by omega) h ha), t_isFit (show 20 < F by omega) h ha, ↓cal_w (t_isAnyBranch (show 20 < F by omega) h ha hl e), t_isAnyBranch (show 20 < F by omega) h ha hl e, c, d, e, e2]
