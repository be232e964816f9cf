/-! PURE: numbers. An int that is not negative is nI of a number; what is asked of it is asked of the number. -/
theorem cal_s {α β : Type} (x : α) (k : α → Option β) : cal (some x) k = k x := rfl
theorem cal_n {α β : Type} (k : α → Option β) : cal none k = none := rfl
theorem cal2_s {α β γ : Type} (x : α) (t : γ) (k : α → γ → Option β) : cal2 (some (x, t)) k = k x t := rfl
theorem cal2_n {α β γ : Type} (k : α → γ → Option β) : cal2 none k = none := rfl
theorem bnd_i {α β : Type} (x : α) (f : α → β) : bnd x f = f x := rfl
theorem n_lt {a b : Nat} (ha : a < 2 ^ 31) (hb : b < 2 ^ 31) : (nI a < nI b) = (a < b) := by
  rw [Int32.lt_iff_toInt_lt, nI_toInt ha, nI_toInt hb]; simp
theorem n_le {a b : Nat} (ha : a < 2 ^ 31) (hb : b < 2 ^ 31) : (nI a ≤ nI b) = (a ≤ b) := by
  rw [Int32.le_iff_toInt_le, nI_toInt ha, nI_toInt hb]; simp
theorem n_eq {a b : Nat} (ha : a < 2 ^ 31) (hb : b < 2 ^ 31) : (nI a = nI b) = (a = b) := by
  rw [← Int32.toInt_inj, nI_toInt ha, nI_toInt hb]
  exact propext ⟨fun h => by omega, fun h => by omega⟩
theorem n_neg {a : Nat} (ha : a < 2 ^ 31) : (nI a < nI 0) = False := by rw [n_lt ha (by decide)]; simp
theorem n_pos {a : Nat} (ha : a < 2 ^ 31) : (nI 0 ≤ nI a) = True := by rw [n_le (by decide) ha]; simp
theorem n_cl {a : Nat} (ha : a < 2 ^ 31) : (nI a).toNatClampNeg = a := nI_clamp ha
theorem n_inb {a n : Nat} (ha : a < 2 ^ 31) : inb (nI a) n = decide (a < n) := by
  unfold inb
  rw [nI_clamp ha]
  have h := nI_pos ha
  by_cases h2 : a < n <;> simp [h, h2, Nat.not_le]
theorem n_add (a b : Nat) : nI a + nI b = nI (a + b) := (Int32.ofNat_add a b).symm
theorem n_div {a d : Nat} (ha : a < 2 ^ 31) (h0 : 0 < d) (hd : d < 2 ^ 31) : nI a / nI d = nI (a / d) := pk_div ha h0 hd
theorem n_sub1 (n : Nat) : nI (n + 1) - nI 1 = nI n := by rw [pk_sub (by omega)]; rfl
theorem n_ex (x : Int32) : x < 0 ∨ ∃ k : Nat, k < 2 ^ 31 ∧ x = nI k := by
  by_cases h : x < 0
  · exact Or.inl h
  · refine Or.inr ⟨x.toNatClampNeg, ?_, ?_⟩
    · show x.toInt.toNat < 2 ^ 31
      have := Int32.toInt_lt x
      omega
    · rw [← Int32.toInt_inj]
      have h0 : 0 ≤ x.toInt := by
        have := Int32.not_lt.mp h
        simpa using Int32.le_iff_toInt_le.mp this
      have h1 := Int32.toInt_lt x
      rw [nI_toInt (by show x.toInt.toNat < 2 ^ 31; omega)]
      show x.toInt = ((x.toInt.toNat : Nat) : Int)
      omega
theorem neg_lt {x : Int32} (h : x < 0) {k : Nat} (hk : k < 2 ^ 31) : x < nI k := by
  rw [Int32.lt_iff_toInt_lt, nI_toInt hk]
  have := Int32.lt_iff_toInt_lt.mp h
  simp at this
  omega
theorem neg_ne {x : Int32} (h : x < 0) {k : Nat} (hk : k < 2 ^ 31) : ¬ x = nI k := fun e => by
  rw [e, Int32.lt_iff_toInt_lt, nI_toInt hk] at h
  simp at h
  omega
theorem neg_nle {x : Int32} (h : x < 0) {k : Nat} (hk : k < 2 ^ 31) : ¬ nI k ≤ x := fun e => by
  rw [Int32.le_iff_toInt_le, nI_toInt hk] at e
  have := Int32.lt_iff_toInt_lt.mp h
  simp at this
  omega
theorem iteP {α : Type} {c : Prop} [Decidable c] {a b : α} (h : c) : (if c then a else b) = a := if_pos h
theorem iteN {α : Type} {c : Prop} [Decidable c] {a b : α} (h : ¬ c) : (if c then a else b) = b := if_neg h
/-- the truth as a number -/
def bI (c : Bool) : Int32 := if c then 1 else 0
theorem bI_t : bI true = nI 1 := rfl
theorem bI_f : bI false = nI 0 := rfl
theorem bI_eq0 (c : Bool) : (bI c = nI 0) = (c = false) := by cases c <;> simp [bI] <;> decide
theorem bI_eq1 (c : Bool) : (bI c = nI 1) = (c = true) := by cases c <;> simp [bI] <;> decide
theorem bI_01 (c : Bool) : (bI c = nI 0 ∨ bI c = nI 1) = True := by cases c <;> simp [bI_t, bI_f]
theorem inb_ok {a n : Nat} (h : a < n) (hn : n < 2 ^ 31) : inb (nI a) n = true := by
  rw [n_inb (by omega)]
  exact decide_eq_true h

theorem cal_w {α β : Type} {x : Option α} {v : α} (h : x = some v) (k : α → Option β) : cal x k = k v := by rw [h]; rfl
theorem cal2_w {α β γ : Type} {x : Option (α × γ)} {v : α} {t : γ} (h : x = some (v, t)) (k : α → γ → Option β) : cal2 x k = k v t := by rw [h]; rfl
theorem lt_t {a b : Nat} (h : a < b) : (a < b) = True := eq_true h
theorem lt_f {a b : Nat} (h : b ≤ a) : (a < b) = False := eq_false (by omega)
theorem le_t {a b : Nat} (h : a ≤ b) : (a ≤ b) = True := eq_true h
theorem le_f {a b : Nat} (h : b < a) : (a ≤ b) = False := eq_false (by omega)
theorem eq_t {a b : Nat} (h : a = b) : (a = b) = True := eq_true h
theorem eq_f {a b : Nat} (h : ¬ a = b) : (a = b) = False := eq_false h
def m1 : Int32 := -1
def m2 : Int32 := -2
theorem m1_lit : -nI 1 = m1 := rfl
theorem m2_lit : -nI 2 = m2 := rfl
theorem m1_neg : m1 < 0 := by decide
theorem m2_neg : m2 < 0 := by decide
theorem m1_lt {k : Nat} (h : k < 2 ^ 31) : (m1 < nI k) = True := eq_true (neg_lt m1_neg h)
theorem m2_lt {k : Nat} (h : k < 2 ^ 31) : (m2 < nI k) = True := eq_true (neg_lt m2_neg h)
theorem m1_eq {k : Nat} (h : k < 2 ^ 31) : (m1 = nI k) = False := eq_false (neg_ne m1_neg h)
theorem m2_eq {k : Nat} (h : k < 2 ^ 31) : (m2 = nI k) = False := eq_false (neg_ne m2_neg h)
theorem eq_m1 {k : Nat} (h : k < 2 ^ 31) : (nI k = m1) = False := eq_false (fun e => neg_ne m1_neg h e.symm)
theorem eq_m2 {k : Nat} (h : k < 2 ^ 31) : (nI k = m2) = False := eq_false (fun e => neg_ne m2_neg h e.symm)
theorem m1_le {k : Nat} (h : k < 2 ^ 31) : (m1 ≤ nI k) = True := eq_true (Int32.le_of_lt (neg_lt m1_neg h))
theorem m2_le {k : Nat} (h : k < 2 ^ 31) : (m2 ≤ nI k) = True := eq_true (Int32.le_of_lt (neg_lt m2_neg h))
theorem le_m1 {k : Nat} (h : k < 2 ^ 31) : (nI k ≤ m1) = False := eq_false (neg_nle m1_neg h)
theorem le_m2 {k : Nat} (h : k < 2 ^ 31) : (nI k ≤ m2) = False := eq_false (neg_nle m2_neg h)
theorem lt_m1 {k : Nat} (h : k < 2 ^ 31) : (nI k < m1) = False := eq_false (fun e => neg_nle m1_neg h (Int32.le_of_lt e))
theorem lt_m2 {k : Nat} (h : k < 2 ^ 31) : (nI k < m2) = False := eq_false (fun e => neg_nle m2_neg h (Int32.le_of_lt e))
theorem m12 : (m1 = m2) = False := by decide
theorem m21 : (m2 = m1) = False := by decide
theorem m1_m1 : m1 + nI 1 = nI 0 := by decide
theorem n_dec {a : Nat} (h : 1 ≤ a) : nI a + m1 = nI (a - 1) := by
  obtain ⟨k, rfl⟩ : ∃ k, a = k + 1 := ⟨a - 1, by omega⟩
  exact pk_m1 k
theorem ss_same {σ : St} {k : Nat} {v : Int32} : (ss σ k v).1 k = v := pk_us
theorem ss_ne {σ : St} {k j : Nat} {v : Int32} (h : j ≠ k) : (ss σ k v).1 j = σ.1 j := pk_un h
theorem ss_r {σ : St} {k : Nat} {v : Int32} : (ss σ k v).2.1 = σ.2.1 := rfl
theorem ss_l {σ : St} {k : Nat} {v : Int32} : (ss σ k v).2.2 = σ.2.2 := rfl
theorem sr_f {σ : St} {a i : Nat} {v : Int32} : (sr σ a i v).1 = σ.1 := rfl
theorem sr_l {σ : St} {a i : Nat} {v : Int32} : (sr σ a i v).2.2 = σ.2.2 := rfl
theorem sr_same {σ : St} {a i : Nat} {v : Int32} : (sr σ a i v).2.1 a = upd (σ.2.1 a) i v := by simp [sr]
theorem sr_ne {σ : St} {a b i : Nat} {v : Int32} (h : b ≠ a) : (sr σ a i v).2.1 b = σ.2.1 b := by simp [sr, h]
theorem sw_f {σ : St} {a : Nat} {f : Nat → Int32} : (sw σ a f).1 = σ.1 := rfl
theorem sw_l {σ : St} {a : Nat} {f : Nat → Int32} : (sw σ a f).2.2 = σ.2.2 := rfl
theorem sw_at {τ : St} {a : Nat} {M : Nat → Int32} : (sw τ a M).2.1 a = M := by simp [sw]
theorem sw_ne {σ : St} {a b : Nat} {f : Nat → Int32} (h : b ≠ a) : (sw σ a f).2.1 b = σ.2.1 b := by simp [sw, h]
theorem n_rem {a d : Nat} : nI a - nI (a / d * d) = nI (a % d) := by
  rw [pk_sub (Nat.div_mul_le_self a d)]
  congr 1
  have := Nat.div_add_mod a d
  rw [Nat.mul_comm] at this
  omega
theorem n_mx {a b : Nat} (ha : a < 2 ^ 31) (hb : b < 2 ^ 31) : mx (nI a) (nI b) = nI (max a b) := by
  show (if nI a < nI b then nI b else nI a) = nI (max a b)
  simp only [n_lt ha hb]
  by_cases c : a < b
  · rw [if_pos c, Nat.max_eq_right (by omega)]
  · rw [if_neg c, Nat.max_eq_left (by omega)]
theorem n_mn {a b : Nat} (ha : a < 2 ^ 31) (hb : b < 2 ^ 31) : mn (nI a) (nI b) = nI (min a b) := by
  show (if nI b < nI a then nI b else nI a) = nI (min a b)
  simp only [n_lt hb ha]
  by_cases c : b < a
  · rw [if_pos c, Nat.min_eq_right (by omega)]
  · rw [if_neg c, Nat.min_eq_left (by omega)]
