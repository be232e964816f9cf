/-! PURE: what an expression comes to -/
def opV (k : Nat) (a b : Int32) : Int32 := if k = 2 then a + b else if k = 3 then a - b else if k = 4 then a * b else if b = nI 0 then nI 0 else if k = 5 then a / b else a - a / b * b
def apC (vr : Nat → Int32) (x : Nat × Nat) (st : List Int32) : List Int32 := if x.1 = 0 then nI x.2 :: st else if x.1 = 1 then vr x.2 :: st else match st with
  | b :: a :: r => opV x.1 a b :: r
  | r => r
def runR (vr : Nat → Int32) : Cd → List Int32 → List Int32
  | [], st => st
  | x :: c, st => apC vr x (runR vr c st)
def htC : Cd → Nat
  | [] => 0
  | x :: r => if x.1 < 2 then htC r + 1 else htC r - 1
def okC : Cd → Prop
  | [] => True
  | x :: r => okC r ∧ (x.1 = 0 ∨ (x.1 = 1 ∧ x.2 < 6) ∨ (2 ≤ x.1 ∧ x.1 ≤ 6 ∧ 2 ≤ htC r))
/-- a code that puts one number upon the pile -/
def VC (vr : Nat → Int32) (c c' : Cd) (v : Int32) : Prop := (okC c → okC c' ∧ htC c' = htC c + 1) ∧ ∀ st, runR vr c' st = v :: runR vr c st
theorem VC.op {vr : Nat → Int32} {c c1 c2 : Cd} {v w : Int32} {k : Nat} (hk : 2 ≤ k ∧ k ≤ 6) (h1 : VC vr c c1 v) (h2 : VC vr c1 c2 w) : VC vr c ((k, 0) :: c2) (opV k v w) := by
  refine ⟨fun ok => ?_, fun st => ?_⟩
  · obtain ⟨a1, a2⟩ := h1.1 ok
    obtain ⟨b1, b2⟩ := h2.1 a1
    refine ⟨⟨b1, Or.inr (Or.inr ⟨hk.1, hk.2, by omega⟩)⟩, ?_⟩
    rw [htC, if_neg (by show ¬ k < 2; omega)]
    omega
  · rw [runR, h2.2 st, h1.2 st]
    unfold apC
    rw [if_neg (by show ¬ k = 0; omega), if_neg (by show ¬ k = 1; omega)]
theorem outc_6 {s : Bool} {ws : List Nat} {c : Cd} (h : hdW ws = 6) : outc s ws c = (ws, c) := by
  cases ws with
  | nil => rfl
  | cons w r =>
    have h : w = 6 := h
    rw [outc, if_pos (Or.inl h)]
theorem outc_w {ws : List Nat} {c : Cd} (h : hdW ws = 6 ∨ hdW ws = 8 ∨ hdW ws = 9) : outc true ws c = (ws, c) := by
  cases ws with
  | nil => rfl
  | cons w r =>
    have h : w = 6 ∨ w = 8 ∨ w = 9 := h
    rw [outc, if_pos]
    rcases h with h | h
    · exact Or.inl h
    · exact Or.inr ⟨rfl, h⟩
theorem outc_ft : ∀ (ws : List Nat) (c : Cd), outc false ws c = outc false (outc true ws c).1 (outc true ws c).2
  | [], c => rfl
  | w :: r, c => by
    by_cases h : w = 6 ∨ (true = true ∧ (w = 8 ∨ w = 9))
    · rw [show outc true (w :: r) c = (w :: r, c) by rw [outc, if_pos h]]
    · rw [show outc true (w :: r) c = outc true r ((opc w, 0) :: c) by rw [outc, if_neg h], ← outc_ft r]
      rw [outc, if_neg]
      rintro (q | ⟨q, -⟩)
      · exact h (Or.inl q)
      · cases q
section
variable {kd vl pl : Nat → Nat} {e : Nat} {vr : Nat → Int32}
/-- the desk's side of it: tokens, and what the words stand for -/
def DV (kd vl pl : Nat → Nat) (e : Nat) (vr : Nat → Int32) (σ : St) : Prop := TkD kd vl pl e σ ∧ ∀ i, i < 6 → σ.2.1 32 i = vr i
theorem DV.ss {σ : St} {v : Int32} (h : DV kd vl pl e vr σ) : DV kd vl pl e vr (ss σ 26 v) := ⟨⟨by rw [ss_ne (by omega)]; exact h.1.1, h.1.2⟩, h.2⟩
def UniC (F : Nat) (kd vl pl : Nat → Nat) (e : Nat) (vr : Nat → Int32) (d : Nat) (Sm : St → Int32 → Option (Int32 × St)) : Prop := ∀ (n a : Nat) (ws : List Nat) (c : Cd) (σ : St), DV kd vl pl e vr σ → σ.1 26 = nI a → a ≤ e → a ≤ 400 → 401 < n + a → (exM kd vl n a d false ws c).1 = 0 → ∃ v q c', f_X4_unit F Sm σ (nI d) = some (v, ss σ 26 (nI q)) ∧ a < q ∧ q ≤ e ∧ q ≤ 400 ∧ exM kd vl n a d false ws c = exM kd vl (n - (q - a)) q d true ws c' ∧ VC vr c c' v
def SumC (F : Nat) (kd vl pl : Nat → Nat) (e : Nat) (vr : Nat → Int32) (d : Nat) : Prop := ∀ (n a : Nat) (ws : List Nat) (c : Cd) (σ : St), DV kd vl pl e vr σ → σ.1 26 = nI a → hdW ws = 6 → a ≤ e → a ≤ 400 → 401 < n + a → (exM kd vl n a d false ws c).1 = 0 → ∃ v q ws' c' c2, f_X4_sumN F (8 - d) σ (nI d) = some (v, ss σ 26 (nI q)) ∧ a < q ∧ q ≤ e ∧ q ≤ 400 ∧ exM kd vl n a d false ws c = exM kd vl (n - (q - a)) q d true ws' c' ∧ ¬ (22 ≤ kd q ∧ kd q ≤ 26) ∧ outc false ws' c' = (ws, c2) ∧ VC vr c c2 v
theorem uniC {F : Nat} (E : TkE kd vl pl e) {d : Nat} (hd : d ≤ 6) (hS : d < 6 → SumC F kd vl pl e vr (d + 1)) : UniC F kd vl pl e vr d (f_X4_sumN F (7 - d)) := by
  have E' := E
  obtain ⟨e1, e2, e3, e4, e5, e6⟩ := E'
  intro n a ws c σ D h26 h1 h2 h3 hok
  obtain ⟨n, rfl⟩ : ∃ k, n = k + 1 := ⟨n - 1, by omega⟩
  have kae : kd a ≤ 28 → a < e := fun q => by
    by_cases z : a = e
    · rw [z] at q; rcases e3 with y | y <;> omega
    · omega
  have wk := d_kindAt (F := F) E D.1 h1
  rw [exM_s] at hok ⊢
  simp only [if_true] at hok ⊢
  by_cases k27 : kd a = 27
  · have hae := kae (by omega)
    simp only [k27, if_true] at hok ⊢
    rw [k27] at wk
    by_cases d6 : d = 6
    · rw [if_pos d6] at hok; cases hok
    · simp only [d6, if_false] at hok ⊢
      by_cases a4 : a < 400
      · simp only [a4, if_true] at hok ⊢
        obtain ⟨v, q, ws', c', c2, g1, g2, g3, g4, g5, g6, g7, g8⟩ := hS (by omega) n (a + 1) (6 :: ws) c (ss σ 26 (nI (a + 1))) D.ss ss_same rfl (by omega) (by omega) (by omega) hok
        rw [g5] at hok ⊢
        obtain ⟨n', hn'⟩ : ∃ k, n - (q - (a + 1)) = k + 1 := ⟨n - (q - (a + 1)) - 1, by omega⟩
        rw [hn', exM_s] at hok ⊢
        simp only [Bool.true_eq_false, if_false] at hok ⊢
        rw [if_neg g6] at hok ⊢
        rw [g7] at hok ⊢
        by_cases kc : kd q = 28
        · have hqe : q < e := by
            by_cases z : q = e
            · rw [z] at kc; rcases e3 with y | y <;> omega
            · omega
          rw [if_pos ⟨kc, by omega⟩] at hok ⊢
          by_cases q4 : q < 400
          · rw [if_pos q4]
            refine ⟨v, q + 1, c2, ?_, by omega, by omega, by omega, ?_, g8⟩
            · rw [show 8 - (d + 1) = 7 - d by omega] at g1
              rw [ss_ss] at g1
              unfold f_X4_unit
              simp (disch := omega) only [↓bnd_i, ↓cal_s, ↓cal_n, ↓cal2_s, ↓cal2_n, cal_s, cal2_s, ↓reduceIte, fa_lit, m1_lit, m2_lit, m1_lt, m2_lt, m1_eq, m2_eq, m1_le, m2_le, le_m1, le_m2, lt_m1, lt_m2, m12, m21, m1_m1, n_lt, n_le, n_eq, lt_t, lt_f, le_t, le_f, eq_t, eq_f, n_cl, inb_ok, n_add, pk_mul, pk_sub, n_rem, n_div, n_dec, n_mx, n_mn, eq_m1, eq_m2, ss_same, ss_ne, ss_r, ss_l, sr_f, sr_l, sr_same, sr_ne, sw_f, sw_l, sw_at, sw_ne, pk_us, pk_un, bI_t, bI_f, not_true_eq_false, not_false_eq_true, eq_self, and_true, true_and, and_false, false_and, or_true, true_or, or_false, false_or, decide_true, decide_false, Bool.false_eq_true, Bool.true_eq_false, ↓cal_w (wk), wk, ↓cal2_w (g1), g1, h26, ss_ss]
            · rw [show n + 1 - (q + 1 - a) = n' by omega]
              rfl
          · rw [if_neg q4] at hok; cases hok
        · rw [if_neg (fun z => kc z.1), if_neg (by omega)] at hok
          cases hok
      · rw [if_neg a4] at hok; cases hok
  · simp only [k27, if_false] at hok ⊢
    by_cases ku : 14 ≤ kd a ∧ kd a ≤ 20
    · have hae := kae (by omega)
      simp only [ku, and_self, if_true] at hok ⊢
      by_cases a4 : a < 400
      · rw [if_pos a4]
        have wn := d_numberAt (F := F) E D.1 (k := a) (by omega)
        rw [if_pos h1] at wn
        by_cases k20 : kd a = 20
        · refine ⟨nI (vl a), a + 1, unC kd vl a :: c, ?_, by omega, by omega, by omega, by rw [show n + 1 - (a + 1 - a) = n by omega], ?_⟩
          · rw [k20] at wk
            unfold f_X4_unit f_X4_unit_54
            simp (disch := omega) only [↓bnd_i, ↓cal_s, ↓cal_n, ↓cal2_s, ↓cal2_n, cal_s, cal2_s, ↓reduceIte, fa_lit, m1_lit, m2_lit, m1_lt, m2_lt, m1_eq, m2_eq, m1_le, m2_le, le_m1, le_m2, lt_m1, lt_m2, m12, m21, m1_m1, n_lt, n_le, n_eq, lt_t, lt_f, le_t, le_f, eq_t, eq_f, n_cl, inb_ok, n_add, pk_mul, pk_sub, n_rem, n_div, n_dec, n_mx, n_mn, eq_m1, eq_m2, ss_same, ss_ne, ss_r, ss_l, sr_f, sr_l, sr_same, sr_ne, sw_f, sw_l, sw_at, sw_ne, pk_us, pk_un, bI_t, bI_f, not_true_eq_false, not_false_eq_true, eq_self, and_true, true_and, and_false, false_and, or_true, true_or, or_false, false_or, decide_true, decide_false, Bool.false_eq_true, Bool.true_eq_false, ↓cal_w (wk), wk, ↓cal_w (wn), wn, h26]
          · unfold unC
            rw [if_pos k20]
            exact ⟨fun ok => ⟨⟨ok, Or.inl rfl⟩, rfl⟩, fun st => rfl⟩
        · have hv := D.2 (kd a - 14) (by omega)
          refine ⟨vr (kd a - 14), a + 1, unC kd vl a :: c, ?_, by omega, by omega, by omega, by rw [show n + 1 - (a + 1 - a) = n by omega], ?_⟩
          · unfold f_X4_unit f_X4_unit_54
            simp (disch := omega) only [↓bnd_i, ↓cal_s, ↓cal_n, ↓cal2_s, ↓cal2_n, cal_s, cal2_s, ↓reduceIte, fa_lit, m1_lit, m2_lit, m1_lt, m2_lt, m1_eq, m2_eq, m1_le, m2_le, le_m1, le_m2, lt_m1, lt_m2, m12, m21, m1_m1, n_lt, n_le, n_eq, lt_t, lt_f, le_t, le_f, eq_t, eq_f, n_cl, inb_ok, n_add, pk_mul, pk_sub, n_rem, n_div, n_dec, n_mx, n_mn, eq_m1, eq_m2, ss_same, ss_ne, ss_r, ss_l, sr_f, sr_l, sr_same, sr_ne, sw_f, sw_l, sw_at, sw_ne, pk_us, pk_un, bI_t, bI_f, not_true_eq_false, not_false_eq_true, eq_self, and_true, true_and, and_false, false_and, or_true, true_or, or_false, false_or, decide_true, decide_false, Bool.false_eq_true, Bool.true_eq_false, ↓cal_w (wk), wk, ↓cal_w (wn), wn, h26, hv]
          · unfold unC
            rw [if_neg k20]
            exact ⟨fun ok => ⟨⟨ok, Or.inr (Or.inl ⟨rfl, by show kd a - 14 < 6; omega⟩)⟩, rfl⟩, fun st => rfl⟩
      · rw [if_neg a4] at hok; cases hok
    · rw [if_neg ku] at hok; cases hok
theorem proC {F : Nat} (hF : 1000 < F) (E : TkE kd vl pl e) {d : Nat} (hd : d ≤ 6) {Sm : St → Int32 → Option (Int32 × St)} (hU : UniC F kd vl pl e vr d Sm) : ∀ (n a : Nat) (ws : List Nat) (c : Cd) (σ : St), DV kd vl pl e vr σ → σ.1 26 = nI a → (hdW ws = 6 ∨ hdW ws = 8 ∨ hdW ws = 9) → a ≤ e → a ≤ 400 → 401 < n + a → (exM kd vl n a d false ws c).1 = 0 → ∃ v q ws' c' c2, f_X4_product F Sm σ (nI d) = some (v, ss σ 26 (nI q)) ∧ a < q ∧ q ≤ e ∧ q ≤ 400 ∧ exM kd vl n a d false ws c = exM kd vl (n - (q - a)) q d true ws' c' ∧ ¬ (24 ≤ kd q ∧ kd q ≤ 26) ∧ outc true ws' c' = (ws, c2) ∧ VC vr c c2 v := by
  have E' := E
  obtain ⟨e1, e2, e3, e4, e5, e6⟩ := E'
  intro n a ws c σ D h26 hw h1 h2 h3 hok
  have loop : ∀ (k m q s : Nat) (ws' : List Nat) (c' c2 : Cd) (tot : Int32), q ≤ e → q ≤ 400 → s < q → 401 < k + q → 401 < m + q → (exM kd vl m q d true ws' c').1 = 0 → outc true ws' c' = (ws, c2) → VC vr c c2 tot → ∃ v q' ws2 c3 c4, f_X4_product_8 F Sm k (ss σ 26 (nI q)) (nI d) tot (nI s) = some (v, ss σ 26 (nI q')) ∧ q ≤ q' ∧ q' ≤ e ∧ q' ≤ 400 ∧ exM kd vl m q d true ws' c' = exM kd vl (m - (q' - q)) q' d true ws2 c3 ∧ ¬ (24 ≤ kd q' ∧ kd q' ≤ 26) ∧ outc true ws2 c3 = (ws, c4) ∧ VC vr c c4 v := by
    intro k
    induction k with
    | zero => intro m q s ws' c' c2 tot _ _ _ h; omega
    | succ k ih =>
      intro m q s ws' c' c2 tot q1 q2 q3 q4 q5 hk ho hV
      have wk := d_kindAt (F := F) E (D.ss (v := nI q)).1 q1
      rw [f_X4_product_8]
      have s26 : (ss σ 26 (nI q)).1 26 = nI q := ss_same
      by_cases ko : 24 ≤ kd q ∧ kd q ≤ 26
      · have hqe : q < e := by
          by_cases z : q = e
          · rw [z] at ko; rcases e3 with y | y <;> omega
          · omega
        obtain ⟨m, rfl⟩ : ∃ k, m = k + 1 := ⟨m - 1, by omega⟩
        have hstep : exM kd vl (m + 1) q d true ws' c' = if q < 400 then exM kd vl m (q + 1) d false (mkOf (kd q) :: ws) c2 else (2, q, c') := by
          rw [exM_s]
          simp only [Bool.true_eq_false, if_false]
          rw [if_pos ⟨by omega, ko.2⟩, decide_eq_true ko.1, ho]
        rw [hstep] at hk ⊢
        by_cases q400 : q < 400
        · rw [if_pos q400] at hk ⊢
          obtain ⟨v1, p1, c5, u1, u2, u3, u4, u5, u6⟩ := hU m (q + 1) (mkOf (kd q) :: ws) c2 (ss σ 26 (nI (q + 1))) D.ss ss_same (by omega) (by omega) (by omega) hk
          rw [ss_ss] at u1
          rw [u5] at hk ⊢
          have hmk : mkOf (kd q) ≠ 6 ∧ ¬ (mkOf (kd q) = 8 ∨ mkOf (kd q) = 9) := by
            rcases (show kd q = 24 ∨ kd q = 25 ∨ kd q = 26 by omega) with z | z | z <;> rw [z] <;> decide
          have ho2 : outc true (mkOf (kd q) :: ws) c5 = (ws, (opc (mkOf (kd q)), 0) :: c5) := by
            rw [outc, if_neg (fun z => by rcases z with z | z; exact hmk.1 z; exact hmk.2 z.2)]
            exact outc_w hw
          have hop : 2 ≤ opc (mkOf (kd q)) ∧ opc (mkOf (kd q)) ≤ 6 := by
            rcases (show kd q = 24 ∨ kd q = 25 ∨ kd q = 26 by omega) with z | z | z <;> rw [z] <;> decide
          obtain ⟨v, q', ws2, c3, c4, g1, g2, g3, g4, g5, g6, g7, g8⟩ := ih (m - (p1 - (q + 1))) p1 (s + 1) (mkOf (kd q) :: ws) c5 ((opc (mkOf (kd q)), 0) :: c5) (opV (opc (mkOf (kd q))) tot v1) u3 u4 (by omega) (by omega) (by omega) hk ho2 (VC.op hop hV u6)
          refine ⟨v, q', ws2, c3, c4, ?_, by omega, g3, g4, ?_, g6, g7, g8⟩
          · rcases (show kd q = 24 ∨ kd q = 25 ∨ kd q = 26 by omega) with z | z | z
            · rw [z] at wk
              have eo : opV (opc (mkOf (kd q))) tot v1 = tot * v1 := by rw [z]; rfl
              rw [eo] at g1
              simp (disch := omega) only [↓bnd_i, ↓cal_s, ↓cal_n, ↓cal2_s, ↓cal2_n, cal_s, cal2_s, ↓reduceIte, fa_lit, m1_lit, m2_lit, m1_lt, m2_lt, m1_eq, m2_eq, m1_le, m2_le, le_m1, le_m2, lt_m1, lt_m2, m12, m21, m1_m1, n_lt, n_le, n_eq, lt_t, lt_f, le_t, le_f, eq_t, eq_f, n_cl, inb_ok, n_add, pk_mul, pk_sub, n_rem, n_div, n_dec, n_mx, n_mn, eq_m1, eq_m2, ss_same, ss_ne, ss_r, ss_l, sr_f, sr_l, sr_same, sr_ne, sw_f, sw_l, sw_at, sw_ne, pk_us, pk_un, bI_t, bI_f, not_true_eq_false, not_false_eq_true, eq_self, and_true, true_and, and_false, false_and, or_true, true_or, or_false, false_or, decide_true, decide_false, Bool.false_eq_true, Bool.true_eq_false, ↓cal_w (wk), wk, ↓cal2_w (u1), u1, s26, ss_ss, f_X4_product_106]
              exact g1
            · rw [z] at wk
              by_cases v0 : v1 = nI 0
              · have eo : opV (opc (mkOf (kd q))) tot v1 = nI 0 := by rw [z, v0]; rfl
                rw [eo] at g1
                simp (disch := omega) only [↓bnd_i, ↓cal_s, ↓cal_n, ↓cal2_s, ↓cal2_n, cal_s, cal2_s, ↓reduceIte, fa_lit, m1_lit, m2_lit, m1_lt, m2_lt, m1_eq, m2_eq, m1_le, m2_le, le_m1, le_m2, lt_m1, lt_m2, m12, m21, m1_m1, n_lt, n_le, n_eq, lt_t, lt_f, le_t, le_f, eq_t, eq_f, n_cl, inb_ok, n_add, pk_mul, pk_sub, n_rem, n_div, n_dec, n_mx, n_mn, eq_m1, eq_m2, ss_same, ss_ne, ss_r, ss_l, sr_f, sr_l, sr_same, sr_ne, sw_f, sw_l, sw_at, sw_ne, pk_us, pk_un, bI_t, bI_f, not_true_eq_false, not_false_eq_true, eq_self, and_true, true_and, and_false, false_and, or_true, true_or, or_false, false_or, decide_true, decide_false, Bool.false_eq_true, Bool.true_eq_false, ↓cal_w (wk), wk, ↓cal2_w (u1), u1, s26, ss_ss, f_X4_product_106, v0]
                exact g1
              · have eo : opV (opc (mkOf (kd q))) tot v1 = tot / v1 := by
                  rw [z]
                  show (if v1 = nI 0 then nI 0 else tot / v1) = _
                  rw [if_neg v0]
                rw [eo] at g1
                simp (disch := omega) only [↓bnd_i, ↓cal_s, ↓cal_n, ↓cal2_s, ↓cal2_n, cal_s, cal2_s, ↓reduceIte, fa_lit, m1_lit, m2_lit, m1_lt, m2_lt, m1_eq, m2_eq, m1_le, m2_le, le_m1, le_m2, lt_m1, lt_m2, m12, m21, m1_m1, n_lt, n_le, n_eq, lt_t, lt_f, le_t, le_f, eq_t, eq_f, n_cl, inb_ok, n_add, pk_mul, pk_sub, n_rem, n_div, n_dec, n_mx, n_mn, eq_m1, eq_m2, ss_same, ss_ne, ss_r, ss_l, sr_f, sr_l, sr_same, sr_ne, sw_f, sw_l, sw_at, sw_ne, pk_us, pk_un, bI_t, bI_f, not_true_eq_false, not_false_eq_true, eq_self, and_true, true_and, and_false, false_and, or_true, true_or, or_false, false_or, decide_true, decide_false, Bool.false_eq_true, Bool.true_eq_false, ↓cal_w (wk), wk, ↓cal2_w (u1), u1, s26, ss_ss, f_X4_product_105, f_X4_product_106, eq_false v0]
                exact g1
            · rw [z] at wk
              by_cases v0 : v1 = nI 0
              · have eo : opV (opc (mkOf (kd q))) tot v1 = nI 0 := by rw [z, v0]; rfl
                rw [eo] at g1
                simp (disch := omega) only [↓bnd_i, ↓cal_s, ↓cal_n, ↓cal2_s, ↓cal2_n, cal_s, cal2_s, ↓reduceIte, fa_lit, m1_lit, m2_lit, m1_lt, m2_lt, m1_eq, m2_eq, m1_le, m2_le, le_m1, le_m2, lt_m1, lt_m2, m12, m21, m1_m1, n_lt, n_le, n_eq, lt_t, lt_f, le_t, le_f, eq_t, eq_f, n_cl, inb_ok, n_add, pk_mul, pk_sub, n_rem, n_div, n_dec, n_mx, n_mn, eq_m1, eq_m2, ss_same, ss_ne, ss_r, ss_l, sr_f, sr_l, sr_same, sr_ne, sw_f, sw_l, sw_at, sw_ne, pk_us, pk_un, bI_t, bI_f, not_true_eq_false, not_false_eq_true, eq_self, and_true, true_and, and_false, false_and, or_true, true_or, or_false, false_or, decide_true, decide_false, Bool.false_eq_true, Bool.true_eq_false, ↓cal_w (wk), wk, ↓cal2_w (u1), u1, s26, ss_ss, f_X4_product_106, v0]
                exact g1
              · have eo : opV (opc (mkOf (kd q))) tot v1 = tot - tot / v1 * v1 := by
                  rw [z]
                  show (if v1 = nI 0 then nI 0 else tot - tot / v1 * v1) = _
                  rw [if_neg v0]
                rw [eo] at g1
                simp (disch := omega) only [↓bnd_i, ↓cal_s, ↓cal_n, ↓cal2_s, ↓cal2_n, cal_s, cal2_s, ↓reduceIte, fa_lit, m1_lit, m2_lit, m1_lt, m2_lt, m1_eq, m2_eq, m1_le, m2_le, le_m1, le_m2, lt_m1, lt_m2, m12, m21, m1_m1, n_lt, n_le, n_eq, lt_t, lt_f, le_t, le_f, eq_t, eq_f, n_cl, inb_ok, n_add, pk_mul, pk_sub, n_rem, n_div, n_dec, n_mx, n_mn, eq_m1, eq_m2, ss_same, ss_ne, ss_r, ss_l, sr_f, sr_l, sr_same, sr_ne, sw_f, sw_l, sw_at, sw_ne, pk_us, pk_un, bI_t, bI_f, not_true_eq_false, not_false_eq_true, eq_self, and_true, true_and, and_false, false_and, or_true, true_or, or_false, false_or, decide_true, decide_false, Bool.false_eq_true, Bool.true_eq_false, ↓cal_w (wk), wk, ↓cal2_w (u1), u1, s26, ss_ss, f_X4_product_105, f_X4_product_106, eq_false v0]
                exact g1
          · rw [g5]
            congr 1
            omega
        · rw [if_neg q400] at hk; cases hk
      · refine ⟨tot, q, ws', c', c2, ?_, Nat.le_refl _, q1, q2, by rw [Nat.sub_self, Nat.sub_zero], ko, ho, hV⟩
        have kle : kd q ≤ 30 := by
          by_cases z : q = e
          · rw [z]; rcases e3 with y | y <;> omega
          · have := e2 q (by omega); omega
        by_cases k24 : kd q < 24
        · simp (disch := omega) only [↓bnd_i, ↓cal_s, ↓cal_n, ↓cal2_s, ↓cal2_n, cal_s, cal2_s, ↓reduceIte, fa_lit, m1_lit, m2_lit, m1_lt, m2_lt, m1_eq, m2_eq, m1_le, m2_le, le_m1, le_m2, lt_m1, lt_m2, m12, m21, m1_m1, n_lt, n_le, n_eq, lt_t, lt_f, le_t, le_f, eq_t, eq_f, n_cl, inb_ok, n_add, pk_mul, pk_sub, n_rem, n_div, n_dec, n_mx, n_mn, eq_m1, eq_m2, ss_same, ss_ne, ss_r, ss_l, sr_f, sr_l, sr_same, sr_ne, sw_f, sw_l, sw_at, sw_ne, pk_us, pk_un, bI_t, bI_f, not_true_eq_false, not_false_eq_true, eq_self, and_true, true_and, and_false, false_and, or_true, true_or, or_false, false_or, decide_true, decide_false, Bool.false_eq_true, Bool.true_eq_false, ↓cal_w (wk), wk, s26]
        · simp (disch := omega) only [↓bnd_i, ↓cal_s, ↓cal_n, ↓cal2_s, ↓cal2_n, cal_s, cal2_s, ↓reduceIte, fa_lit, m1_lit, m2_lit, m1_lt, m2_lt, m1_eq, m2_eq, m1_le, m2_le, le_m1, le_m2, lt_m1, lt_m2, m12, m21, m1_m1, n_lt, n_le, n_eq, lt_t, lt_f, le_t, le_f, eq_t, eq_f, n_cl, inb_ok, n_add, pk_mul, pk_sub, n_rem, n_div, n_dec, n_mx, n_mn, eq_m1, eq_m2, ss_same, ss_ne, ss_r, ss_l, sr_f, sr_l, sr_same, sr_ne, sw_f, sw_l, sw_at, sw_ne, pk_us, pk_un, bI_t, bI_f, not_true_eq_false, not_false_eq_true, eq_self, and_true, true_and, and_false, false_and, or_true, true_or, or_false, false_or, decide_true, decide_false, Bool.false_eq_true, Bool.true_eq_false, ↓cal_w (wk), wk, s26]
  obtain ⟨v1, p1, c5, u1, u2, u3, u4, u5, u6⟩ := hU n a ws c σ D h26 h1 h2 h3 hok
  have hok' := hok
  rw [u5] at hok'
  obtain ⟨v, q', ws2, c3, c4, g1, g2, g3, g4, g5, g6, g7, g8⟩ := loop F (n - (p1 - a)) p1 0 ws c5 c5 v1 u3 u4 (by omega) (by omega) (by omega) hok' (outc_w hw) u6
  refine ⟨v, q', ws2, c3, c4, ?_, by omega, g3, g4, ?_, g6, g7, g8⟩
  · unfold f_X4_product
    simp (disch := omega) only [↓bnd_i, ↓cal_s, ↓cal_n, ↓cal2_s, ↓cal2_n, cal_s, cal2_s, ↓reduceIte, fa_lit, m1_lit, m2_lit, m1_lt, m2_lt, m1_eq, m2_eq, m1_le, m2_le, le_m1, le_m2, lt_m1, lt_m2, m12, m21, m1_m1, n_lt, n_le, n_eq, lt_t, lt_f, le_t, le_f, eq_t, eq_f, n_cl, inb_ok, n_add, pk_mul, pk_sub, n_rem, n_div, n_dec, n_mx, n_mn, eq_m1, eq_m2, ss_same, ss_ne, ss_r, ss_l, sr_f, sr_l, sr_same, sr_ne, sw_f, sw_l, sw_at, sw_ne, pk_us, pk_un, bI_t, bI_f, not_true_eq_false, not_false_eq_true, eq_self, and_true, true_and, and_false, false_and, or_true, true_or, or_false, false_or, decide_true, decide_false, Bool.false_eq_true, Bool.true_eq_false, ↓cal2_w (u1), u1]
    exact g1
  · rw [u5, g5]
    congr 1
    omega
theorem sumM {F : Nat} (hF : 1000 < F) (E : TkE kd vl pl e) {d : Nat} (hd : d ≤ 6) (hS : d < 6 → SumC F kd vl pl e vr (d + 1)) : SumC F kd vl pl e vr d := by
  have E' := E
  obtain ⟨e1, e2, e3, e4, e5, e6⟩ := E'
  have hP := proC (F := F) hF E hd (uniC (F := F) E hd hS)
  intro n a ws c σ D h26 hw h1 h2 h3 hok
  have loop : ∀ (k m q s : Nat) (ws' : List Nat) (c' c2 : Cd) (tot : Int32), q ≤ e → q ≤ 400 → s < q → 401 < k + q → 401 < m + q → (exM kd vl m q d true ws' c').1 = 0 → ¬ (24 ≤ kd q ∧ kd q ≤ 26) → outc false ws' c' = (ws, c2) → VC vr c c2 tot → ∃ v q' ws2 c3 c4, f_X4_sum_8 F (f_X4_sumN F (7 - d)) k (ss σ 26 (nI q)) (nI d) tot (nI s) = some (v, ss σ 26 (nI q')) ∧ q ≤ q' ∧ q' ≤ e ∧ q' ≤ 400 ∧ exM kd vl m q d true ws' c' = exM kd vl (m - (q' - q)) q' d true ws2 c3 ∧ ¬ (22 ≤ kd q' ∧ kd q' ≤ 26) ∧ outc false ws2 c3 = (ws, c4) ∧ VC vr c c4 v := by
    intro k
    induction k with
    | zero => intro m q s ws' c' c2 tot _ _ _ h; omega
    | succ k ih =>
      intro m q s ws' c' c2 tot q1 q2 q3 q4 q5 hk nk ho hV
      have wk := d_kindAt (F := F) E (D.ss (v := nI q)).1 q1
      rw [f_X4_sum_8]
      have s26 : (ss σ 26 (nI q)).1 26 = nI q := ss_same
      have kle : kd q ≤ 30 := by
        by_cases z : q = e
        · rw [z]; rcases e3 with y | y <;> omega
        · have := e2 q (by omega); omega
      by_cases ko : kd q = 22 ∨ kd q = 23
      · have hqe : q < e := by
          by_cases z : q = e
          · rw [z] at ko; rcases e3 with y | y <;> omega
          · omega
        obtain ⟨m, rfl⟩ : ∃ k, m = k + 1 := ⟨m - 1, by omega⟩
        have hstep : exM kd vl (m + 1) q d true ws' c' = if q < 400 then exM kd vl m (q + 1) d false (mkOf (kd q) :: ws) c2 else (2, q, c') := by
          rw [exM_s]
          simp only [Bool.true_eq_false, if_false]
          rw [if_pos (by omega), decide_eq_false (by omega), ho]
        rw [hstep] at hk ⊢
        by_cases q400 : q < 400
        · rw [if_pos q400] at hk ⊢
          have hmk : mkOf (kd q) = 8 ∨ mkOf (kd q) = 9 := by
            rcases ko with z | z <;> rw [z] <;> decide
          obtain ⟨v1, p1, ws5, c5, c6', u1, u2, u3, u4, u5, u6, u7, u8⟩ := hP m (q + 1) (mkOf (kd q) :: ws) c2 (ss σ 26 (nI (q + 1))) D.ss ss_same (Or.inr hmk) (by omega) (by omega) (by omega) hk
          rw [ss_ss] at u1
          rw [u5] at hk ⊢
          have ho2 : outc false ws5 c5 = (ws, (opc (mkOf (kd q)), 0) :: c6') := by
            rw [outc_ft, u7]
            show outc false (mkOf (kd q) :: ws) c6' = _
            rw [outc, if_neg (fun z => by rcases z with z | ⟨z, -⟩; omega; cases z)]
            exact outc_6 hw
          have hop : 2 ≤ opc (mkOf (kd q)) ∧ opc (mkOf (kd q)) ≤ 6 := by
            rcases ko with z | z <;> rw [z] <;> decide
          obtain ⟨v, q', ws2, c3, c4, g1, g2, g3, g4, g5, g6, g7, g8⟩ := ih (m - (p1 - (q + 1))) p1 (s + 1) ws5 c5 ((opc (mkOf (kd q)), 0) :: c6') (opV (opc (mkOf (kd q))) tot v1) u3 u4 (by omega) (by omega) (by omega) hk u6 ho2 (VC.op hop hV u8)
          refine ⟨v, q', ws2, c3, c4, ?_, by omega, g3, g4, ?_, g6, g7, g8⟩
          · rcases ko with z | z
            · rw [z] at wk
              have eo : opV (opc (mkOf (kd q))) tot v1 = tot + v1 := by rw [z]; rfl
              rw [eo] at g1
              simp (disch := omega) only [↓bnd_i, ↓cal_s, ↓cal_n, ↓cal2_s, ↓cal2_n, cal_s, cal2_s, ↓reduceIte, fa_lit, m1_lit, m2_lit, m1_lt, m2_lt, m1_eq, m2_eq, m1_le, m2_le, le_m1, le_m2, lt_m1, lt_m2, m12, m21, m1_m1, n_lt, n_le, n_eq, lt_t, lt_f, le_t, le_f, eq_t, eq_f, n_cl, inb_ok, n_add, pk_mul, pk_sub, n_rem, n_div, n_dec, n_mx, n_mn, eq_m1, eq_m2, ss_same, ss_ne, ss_r, ss_l, sr_f, sr_l, sr_same, sr_ne, sw_f, sw_l, sw_at, sw_ne, pk_us, pk_un, bI_t, bI_f, not_true_eq_false, not_false_eq_true, eq_self, and_true, true_and, and_false, false_and, or_true, true_or, or_false, false_or, decide_true, decide_false, Bool.false_eq_true, Bool.true_eq_false, ↓cal_w (wk), wk, ↓cal2_w (u1), u1, s26, ss_ss, f_X4_sum_45, f_X4_sum_80]
              exact g1
            · rw [z] at wk
              have eo : opV (opc (mkOf (kd q))) tot v1 = tot - v1 := by rw [z]; rfl
              rw [eo] at g1
              simp (disch := omega) only [↓bnd_i, ↓cal_s, ↓cal_n, ↓cal2_s, ↓cal2_n, cal_s, cal2_s, ↓reduceIte, fa_lit, m1_lit, m2_lit, m1_lt, m2_lt, m1_eq, m2_eq, m1_le, m2_le, le_m1, le_m2, lt_m1, lt_m2, m12, m21, m1_m1, n_lt, n_le, n_eq, lt_t, lt_f, le_t, le_f, eq_t, eq_f, n_cl, inb_ok, n_add, pk_mul, pk_sub, n_rem, n_div, n_dec, n_mx, n_mn, eq_m1, eq_m2, ss_same, ss_ne, ss_r, ss_l, sr_f, sr_l, sr_same, sr_ne, sw_f, sw_l, sw_at, sw_ne, pk_us, pk_un, bI_t, bI_f, not_true_eq_false, not_false_eq_true, eq_self, and_true, true_and, and_false, false_and, or_true, true_or, or_false, false_or, decide_true, decide_false, Bool.false_eq_true, Bool.true_eq_false, ↓cal_w (wk), wk, ↓cal2_w (u1), u1, s26, ss_ss, f_X4_sum_45, f_X4_sum_80]
              exact g1
          · rw [g5]
            congr 1
            omega
        · rw [if_neg q400] at hk; cases hk
      · refine ⟨tot, q, ws', c', c2, ?_, Nat.le_refl _, q1, q2, by rw [Nat.sub_self, Nat.sub_zero], by omega, ho, hV⟩
        simp (disch := omega) only [↓bnd_i, ↓cal_s, ↓cal_n, ↓cal2_s, ↓cal2_n, cal_s, cal2_s, ↓reduceIte, fa_lit, m1_lit, m2_lit, m1_lt, m2_lt, m1_eq, m2_eq, m1_le, m2_le, le_m1, le_m2, lt_m1, lt_m2, m12, m21, m1_m1, n_lt, n_le, n_eq, lt_t, lt_f, le_t, le_f, eq_t, eq_f, n_cl, inb_ok, n_add, pk_mul, pk_sub, n_rem, n_div, n_dec, n_mx, n_mn, eq_m1, eq_m2, ss_same, ss_ne, ss_r, ss_l, sr_f, sr_l, sr_same, sr_ne, sw_f, sw_l, sw_at, sw_ne, pk_us, pk_un, bI_t, bI_f, not_true_eq_false, not_false_eq_true, eq_self, and_true, true_and, and_false, false_and, or_true, true_or, or_false, false_or, decide_true, decide_false, Bool.false_eq_true, Bool.true_eq_false, ↓cal_w (wk), wk, s26]
  obtain ⟨v1, p1, ws5, c5, c6', u1, u2, u3, u4, u5, u6, u7, u8⟩ := hP n a ws c σ D h26 (Or.inl hw) h1 h2 h3 hok
  have hok' := hok
  rw [u5] at hok'
  have ho : outc false ws5 c5 = (ws, c6') := by
    rw [outc_ft, u7]
    exact outc_6 hw
  obtain ⟨v, q', ws2, c3, c4, g1, g2, g3, g4, g5, g6, g7, g8⟩ := loop F (n - (p1 - a)) p1 0 ws5 c5 c6' v1 u3 u4 (by omega) (by omega) (by omega) hok' u6 ho u8
  refine ⟨v, q', ws2, c3, c4, ?_, by omega, g3, g4, ?_, g6, g7, g8⟩
  · rw [show 8 - d = 7 - d + 1 by omega, f_X4_sumN]
    unfold f_X4_sum
    simp (disch := omega) only [↓bnd_i, ↓cal_s, ↓cal_n, ↓cal2_s, ↓cal2_n, cal_s, cal2_s, ↓reduceIte, fa_lit, m1_lit, m2_lit, m1_lt, m2_lt, m1_eq, m2_eq, m1_le, m2_le, le_m1, le_m2, lt_m1, lt_m2, m12, m21, m1_m1, n_lt, n_le, n_eq, lt_t, lt_f, le_t, le_f, eq_t, eq_f, n_cl, inb_ok, n_add, pk_mul, pk_sub, n_rem, n_div, n_dec, n_mx, n_mn, eq_m1, eq_m2, ss_same, ss_ne, ss_r, ss_l, sr_f, sr_l, sr_same, sr_ne, sw_f, sw_l, sw_at, sw_ne, pk_us, pk_un, bI_t, bI_f, not_true_eq_false, not_false_eq_true, eq_self, and_true, true_and, and_false, false_and, or_true, true_or, or_false, false_or, decide_true, decide_false, Bool.false_eq_true, Bool.true_eq_false, ↓cal2_w (u1), u1]
    exact g1
  · rw [u5, g5]
    congr 1
    omega
theorem sumC {F : Nat} (hF : 1000 < F) (E : TkE kd vl pl e) : ∀ j d, d + j = 6 → SumC F kd vl pl e vr d := by
  intro j
  induction j with
  | zero => exact fun d hd => sumM hF E (by omega) (fun h => by omega)
  | succ j ih => exact fun d hd => sumM hF E (by omega) (fun h => ih (d + 1) (by omega))
/-- the desk reckons what the code reckons -/
theorem d_reckon {F : Nat} (hF : 1000 < F) (E : TkE kd vl pl e) {n a b : Nat} {cd : Cd} (hx : exM kd vl n a 0 false [] [] = (0, b, cd)) (h1 : a ≤ e) (h2 : a ≤ 400) (h3 : 401 < n + a) (vr : Nat → Int32) : ∃ v, runR vr cd [] = [v] ∧ okC cd ∧ ∀ σ, DV kd vl pl e vr σ → σ.1 26 = nI a → f_X4_sumN F 8 σ (nI 0) = some (v, ss σ 26 (nI b)) := by
  have key : ∀ σ, DV kd vl pl e vr σ → σ.1 26 = nI a → ∃ v, runR vr cd [] = [v] ∧ okC cd ∧ f_X4_sumN F 8 σ (nI 0) = some (v, ss σ 26 (nI b)) := by
    intro σ D h26
    obtain ⟨v, q, ws', c', c2, g1, g2, g3, g4, g5, g6, g7, g8⟩ := sumC (vr := vr) hF E 6 0 rfl n a [] [] σ D h26 rfl h1 h2 h3 (by rw [hx])
    rw [hx] at g5
    obtain ⟨n', hn'⟩ : ∃ k, n - (q - a) = k + 1 := ⟨n - (q - a) - 1, by omega⟩
    rw [hn', exM_s] at g5
    simp only [Bool.true_eq_false, if_false] at g5
    rw [if_neg g6, if_neg (by omega), if_pos trivial, g7] at g5
    have hb : b = q := congrArg (fun z => z.2.1) g5
    have hc : cd = c2 := congrArg (fun z => z.2.2) g5
    subst hb hc
    exact ⟨v, g8.2 [], (g8.1 trivial).1, g1⟩
  let σ0 : St := (fun k => if k = 19 then nI (e + 1) else nI a, fun r k => if r = 26 then nI (kd k) else if r = 27 then nI (vl k) else if r = 28 then nI (pl k) else vr k, fun _ _ => 0)
  obtain ⟨v, r1, r2, -⟩ := key σ0 ⟨⟨rfl, fun k _ => ⟨rfl, rfl, rfl⟩⟩, fun i _ => rfl⟩ rfl
  refine ⟨v, r1, r2, fun σ D h26 => ?_⟩
  obtain ⟨v', r1', -, g⟩ := key σ D h26
  rw [r1] at r1'
  have : v = v' := by injection r1'
  rw [this]
  exact g
end
/-! the model's reckoning -/
def plR (f : Nat → Int32) : List Int32 → Prop
  | [] => True
  | v :: r => f r.length = v ∧ plR f r
theorem plR_upd {f : Nat → Int32} {v : Int32} : ∀ {st : List Int32} {i : Nat}, st.length ≤ i → plR f st → plR (upd f i v) st
  | [], _, _, _ => trivial
  | w :: r, i, h, hw => by
    have h' : r.length + 1 ≤ i := h
    refine ⟨?_, plR_upd (by omega) hw.2⟩
    rw [pk_un (by omega)]; exact hw.1
theorem run_len {vr : Nat → Int32} : ∀ {c : Cd}, okC c → (runR vr c []).length = htC c ∧ htC c ≤ c.length
  | [], _ => ⟨rfl, Nat.le_refl _⟩
  | x :: r, h => by
    obtain ⟨i1, i2⟩ := run_len (vr := vr) h.1
    have e : (x :: r).length = r.length + 1 := rfl
    rw [runR, htC, e]
    unfold apC
    rcases h.2 with q | ⟨q, -⟩ | ⟨q1, q2, q3⟩
    · rw [if_pos q, if_pos (by omega)]
      exact ⟨by show (runR vr r []).length + 1 = _; omega, by omega⟩
    · rw [if_neg (by omega), if_pos q, if_pos (by omega)]
      exact ⟨by show (runR vr r []).length + 1 = _; omega, by omega⟩
    · rw [if_neg (by omega), if_neg (by omega), if_neg (by omega)]
      refine ⟨?_, by omega⟩
      cases hr : runR vr r [] with
      | nil => rw [hr] at i1; have i1 : 0 = htC r := i1; omega
      | cons b s =>
        cases s with
        | nil => rw [hr] at i1; have i1 : 1 = htC r := i1; omega
        | cons a s =>
          rw [hr] at i1
          have i1 : s.length + 1 + 1 = htC r := i1
          show s.length + 1 = _
          omega
theorem lst_c : ∀ l : Cd, l = [] ∨ ∃ L x, l = L ++ [x]
  | [] => Or.inl rfl
  | y :: r => by
    rcases lst_c r with h | ⟨L, x, h⟩
    · exact Or.inr ⟨[], y, by rw [h]; rfl⟩
    · exact Or.inr ⟨y :: L, x, by rw [h]; rfl⟩
theorem cdR_app {f g : Nat → Int32} {c0 : Nat} {M : Cd} : ∀ {L : Cd}, cdR f g c0 (L ++ M) → cdR f g c0 M
  | [], h => h
  | _ :: L, h => cdR_app (L := L) h.2.2
theorem okC_app {M : Cd} : ∀ {L : Cd}, okC (L ++ M) → okC M
  | [], h => h
  | _ :: L, h => okC_app (L := L) h.1
