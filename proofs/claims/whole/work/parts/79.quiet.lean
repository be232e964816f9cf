/-! PURE: what the model runs through without a tell -/
section
variable {F : Nat} {kd vl ps dp : Nat → Nat} {T c : Nat}
/-- a program, as the model has it -/
def PM (F : Nat) (kd vl ps dp : Nat → Nat) (T c : Nat) (τ : St) : Prop := τ.1 11 = nI T ∧ T ≤ 200 ∧ (∀ k, k < T → PT F kd vl ps dp c τ k) ∧ (∀ d, d < T → kd (ps d) = 12 → ∃ x, x < T ∧ Mate kd ps dp (τ.2.1 11) d x) ∧ (∀ x, x < T → kd (ps x) = 13 → ∃ d, Mate kd ps dp (τ.2.1 11) d x) ∧ (∀ k, k < T → kd (ps k) = 12 → vl (ps k + 1) ≤ 99)
theorem PM.keep {τ τ' : St} (h : PM F kd vl ps dp T c τ) (h11 : τ'.1 11 = τ.1 11) (hr : ∀ r, 8 ≤ r → r ≤ 14 → τ'.2.1 r = τ.2.1 r) : PM F kd vl ps dp T c τ' := by
  obtain ⟨p1, p2, p3, p4, p5, p6⟩ := h
  refine ⟨h11.trans p1, p2, fun k hk => PT_keep (K := T) (p3 k hk) hk (by rw [hr 8 (by omega) (by omega)]) (by rw [hr 10 (by omega) (by omega)]) (fun j _ => by rw [hr 9 (by omega) (by omega)]) (fun i _ => ⟨by rw [hr 13 (by omega) (by omega)], by rw [hr 14 (by omega) (by omega)]⟩) (Nat.le_refl _), fun d h1 h2 => ?_, fun x h1 h2 => ?_, p6⟩
  · rw [hr 11 (by omega) (by omega)]; exact p4 d h1 h2
  · rw [hr 11 (by omega) (by omega)]; exact p5 x h1 h2
theorem PM.sw {τ : St} {f : Nat → Int32} {r : Nat} (h : PM F kd vl ps dp T c τ) (hr : r < 8 ∨ 14 < r) : PM F kd vl ps dp T c (sw τ r f) := h.keep rfl (fun r' h1 h2 => sw_ne (by omega))
theorem PM.sr {τ : St} {i : Nat} {v : Int32} {r : Nat} (h : PM F kd vl ps dp T c τ) (hr : r < 8 ∨ 14 < r) : PM F kd vl ps dp T c (sr τ r i v) := h.keep rfl (fun r' h1 h2 => sr_ne (by omega))
/-- the model's steps that tell nothing -/
theorem r_top {n k t D : Nat} {τ : St} {x : Int32} (h11 : τ.1 11 = nI T) (hT : T ≤ 200) (hk : k < T) (ht : τ.2.1 19 6 = nI t) (h3 : t < 300) {v : Nat} (hv : τ.2.1 8 k = nI v) (hv1 : v < 20) : f_X8_runs_6 F (n + 1) τ (nI k) (nI D) x = (if nI v = 10 then (if inb (nI k) 210 = true then if (τ.2.1 10 (nI k).toNatClampNeg) = 0 then (if inb (nI k) 210 = true then bnd (τ.2.1 11 (nI k).toNatClampNeg) (fun v26 => f_X8_runs_259 F (f_X8_runs_6 F n) τ v26 (nI D) x) else none) else (if inb (nI D) 3 = true then bnd (sr τ 18 (nI D).toNatClampNeg 0) (fun t23 => bnd (nI D + 1) (fun v24 => f_X8_runs_259 F (f_X8_runs_6 F n) t23 (nI k) v24 x)) else none) else none) else (if nI v = 11 then (if inb (nI D - 1) 3 = true then if inb (nI D - 1) 3 = true then bnd (sr τ 18 (nI D - 1).toNatClampNeg ((τ.2.1 18 (nI D - 1).toNatClampNeg) + 1)) (fun t12 => if inb (nI D - 1) 3 = true then if inb (nI k) 210 = true then if inb (t12.2.1 11 (nI k).toNatClampNeg) 210 = true then if (t12.2.1 10 (t12.2.1 11 (nI k).toNatClampNeg).toNatClampNeg) ≤ (t12.2.1 18 (nI D - 1).toNatClampNeg) then (bnd (nI D + (-1 : Int32)) (fun v17 => f_X8_runs_259 F (f_X8_runs_6 F n) t12 (nI k) v17 x)) else (if inb (nI k) 210 = true then bnd (t12.2.1 11 (nI k).toNatClampNeg) (fun v19 => f_X8_runs_259 F (f_X8_runs_6 F n) t12 v19 (nI D) x) else none) else none else none else none) else none else none) else (bnd (sr τ 19 6 ((τ.2.1 19 6) + 1)) (fun t7 => if nI D ≤ 0 then (f_X8_runs_163 F (f_X8_runs_6 F n) t7 (nI k) (nI D) x (nI v) 0 0) else (if inb (nI D - 1) 3 = true then f_X8_runs_163 F (f_X8_runs_6 F n) t7 (nI k) (nI D) x (nI v) (t7.2.1 18 (nI D - 1).toNatClampNeg) 0 else none))))) := by
  rw [f_X8_runs_6]
  have a1 : ¬ nI T ≤ nI k := by rw [n_le (by omega) (by omega)]; omega
  have a2 : ¬ (300 : Int32) ≤ nI t := by
    show ¬ nI 300 ≤ nI t
    rw [n_le (by omega) (by omega)]; omega
  have ik : inb (nI k) 210 = true := inb_ok (by omega) (by omega)
  rw [h11, if_neg a1, ht, if_neg a2, if_pos ik, bnd_i, n_cl (a := k) (by omega), hv]
theorem r_do0 {n k t D j : Nat} {τ : St} {x : Int32} (h11 : τ.1 11 = nI T) (hT : T ≤ 200) (hk : k < T) (ht : τ.2.1 19 6 = nI t) (h3 : t < 300) (hv : τ.2.1 8 k = nI 10) (h10 : τ.2.1 10 k = nI 0) (hj : τ.2.1 11 k = nI j) : f_X8_runs_6 F (n + 1) τ (nI k) (nI D) x = f_X8_runs_6 F n τ (nI (j + 1)) (nI D) x := by
  rw [r_top h11 hT hk ht h3 hv (by omega)]
  have ik : inb (nI k) 210 = true := inb_ok (by omega) (by omega)
  rw [if_pos (show nI 10 = (10 : Int32) from rfl), if_pos ik, n_cl (a := k) (by omega), h10, if_pos (show nI 0 = (0 : Int32) from rfl), if_pos ik, bnd_i, hj]
  unfold f_X8_runs_259
  rw [bnd_i]
  show f_X8_runs_6 F n τ (nI j + nI 1) (nI D) x = _
  rw [n_add]
theorem r_do1 {n k t D m : Nat} {τ : St} {x : Int32} (h11 : τ.1 11 = nI T) (hT : T ≤ 200) (hk : k < T) (ht : τ.2.1 19 6 = nI t) (h3 : t < 300) (hv : τ.2.1 8 k = nI 10) (h10 : τ.2.1 10 k = nI (m + 1)) (hm : m < 10000) (hD : D < 3) : f_X8_runs_6 F (n + 1) τ (nI k) (nI D) x = f_X8_runs_6 F n (sr τ 18 D (nI 0)) (nI (k + 1)) (nI (D + 1)) x := by
  rw [r_top h11 hT hk ht h3 hv (by omega)]
  have ik : inb (nI k) 210 = true := inb_ok (by omega) (by omega)
  have iD : inb (nI D) 3 = true := inb_ok (by omega) (by omega)
  have nz : ¬ nI (m + 1) = (0 : Int32) := by
    show ¬ nI (m + 1) = nI 0
    rw [n_eq (by omega) (by omega)]; omega
  rw [if_pos (show nI 10 = (10 : Int32) from rfl), if_pos ik, n_cl (a := k) (by omega), h10, if_neg nz, if_pos iD, bnd_i, bnd_i, n_cl (a := D) (by omega)]
  unfold f_X8_runs_259
  rw [bnd_i]
  show f_X8_runs_6 F n (sr τ 18 D (nI 0)) (nI k + nI 1) (nI D + nI 1) x = _
  rw [n_add, n_add]
theorem r_end {n k t D m d rr : Nat} {τ : St} {x : Int32} (h11 : τ.1 11 = nI T) (hT : T ≤ 200) (hk : k < T) (ht : τ.2.1 19 6 = nI t) (h3 : t < 300) (hv : τ.2.1 8 k = nI 11) (hj : τ.2.1 11 k = nI d) (hd : d < T) (h10 : τ.2.1 10 d = nI m) (hm : m < 10000) (hD : D < 3) (h18 : τ.2.1 18 D = nI rr) (hr : rr < 10000) : f_X8_runs_6 F (n + 1) τ (nI k) (nI (D + 1)) x = if m ≤ rr + 1 then f_X8_runs_6 F n (sr τ 18 D (nI (rr + 1))) (nI (k + 1)) (nI D) x else f_X8_runs_6 F n (sr τ 18 D (nI (rr + 1))) (nI (d + 1)) (nI (D + 1)) x := by
  rw [r_top h11 hT hk ht h3 hv (by omega)]
  have ik : inb (nI k) 210 = true := inb_ok (by omega) (by omega)
  have id : inb (nI d) 210 = true := inb_ok (by omega) (by omega)
  have iD : inb (nI D) 3 = true := inb_ok (by omega) (by omega)
  have sB : nI (D + 1) - (1 : Int32) = nI D := n_sub1 D
  have sC : nI (D + 1) + (-1 : Int32) = nI D := by
    show nI (D + 1) + m1 = nI D
    rw [n_dec (by omega)]; rfl
  have n10 : ¬ nI 11 = (10 : Int32) := by decide
  rw [if_neg n10, if_pos (show nI 11 = (11 : Int32) from rfl), sB, sC, if_pos iD, if_pos iD, bnd_i, if_pos iD, if_pos ik, n_cl (a := D) (by omega), n_cl (a := k) (by omega), h18]
  have eA : nI rr + (1 : Int32) = nI (rr + 1) := n_add rr 1
  rw [eA]
  have e11 : (sr τ 18 D (nI (rr + 1))).2.1 11 = τ.2.1 11 := sr_ne (by omega)
  have e10 : (sr τ 18 D (nI (rr + 1))).2.1 10 = τ.2.1 10 := sr_ne (by omega)
  have e18 : (sr τ 18 D (nI (rr + 1))).2.1 18 D = nI (rr + 1) := by rw [sr_same]; exact pk_us
  rw [e11, hj, if_pos id, n_cl (a := d) (by omega), e10, h10, e18]
  have ql : nI m ≤ nI (rr + 1) ↔ m ≤ rr + 1 := by rw [n_le (by omega) (by omega)]
  unfold f_X8_runs_259
  by_cases q : m ≤ rr + 1
  · rw [if_pos (ql.2 q), if_pos q, bnd_i, bnd_i]
    show f_X8_runs_6 F n _ (nI k + nI 1) (nI D) x = _
    rw [n_add]
  · rw [if_neg (fun z => q (ql.1 z)), if_neg q, if_pos ik, bnd_i, bnd_i]
    show f_X8_runs_6 F n _ (nI d + nI 1) (nI (D + 1)) x = _
    rw [n_add]
def cQ (D : Nat) : Nat := if D = 0 then 1000000 else if D = 1 then 10000 else if D = 2 then 100 else 1
/-- from a to b, at depth D, the model tells nothing -/
def QB (F : Nat) (kd vl ps dp : Nat → Nat) (T c : Nat) (a b D : Nat) : Prop := ∃ s, s + a * cQ D ≤ b * cQ D ∧ ∀ (τ : St) (t : Nat), PM F kd vl ps dp T c τ → τ.2.1 19 6 = nI t → t < 300 → ∃ f, (∀ l, l < D → f l = τ.2.1 18 l) ∧ ∀ (n : Nat) (x : Int32), f_X8_runs_6 F (n + s) τ (nI a) (nI D) x = f_X8_runs_6 F n (sw τ 18 f) (nI b) (nI D) x
theorem QB.refl (a D : Nat) : QB F kd vl ps dp T c a a D := ⟨0, by omega, fun τ t _ _ _ => ⟨τ.2.1 18, fun _ _ => rfl, fun n x => by rw [sw_self]; rfl⟩⟩
theorem QB.trans {a b d D : Nat} (h : QB F kd vl ps dp T c a b D) (k : QB F kd vl ps dp T c b d D) : QB F kd vl ps dp T c a d D := by
  obtain ⟨s1, b1, h1⟩ := h
  obtain ⟨s2, b2, h2⟩ := k
  refine ⟨s1 + s2, by omega, fun τ t P ht h3 => ?_⟩
  obtain ⟨f1, x1, x2⟩ := h1 τ t P ht h3
  obtain ⟨f2, y1, y2⟩ := h2 (sw τ 18 f1) t (P.sw (by omega)) (by rw [sw_ne (by omega)]; exact ht) h3
  refine ⟨f2, fun l hl => by rw [y1 l hl, sw_at]; exact x1 l hl, fun n x => ?_⟩
  rw [show n + (s1 + s2) = n + s2 + s1 by omega, x2, y2, sw_sw]
theorem cQ_pos (D : Nat) : 1 ≤ cQ D := by
  unfold cQ
  split
  · omega
  · split
    · omega
    · split <;> omega
theorem QB.do0 {k D : Nat} (P0 : ∃ τ, PM F kd vl ps dp T c τ) {x : Nat} (hx : ∀ τ, PM F kd vl ps dp T c τ → τ.2.1 11 k = nI x) (hkx : k < x) (hk : k < T) (h12 : kd (ps k) = 12) (h0 : vl (ps k + 1) = 0) : QB F kd vl ps dp T c k (x + 1) D := by
  refine ⟨1, ?_, fun τ t P ht h3 => ⟨τ.2.1 18, fun _ _ => rfl, fun n y => ?_⟩⟩
  · have := cQ_pos D
    have h1 : (k + 1) * cQ D ≤ (x + 1) * cQ D := Nat.mul_le_mul_right _ (by omega)
    rw [Nat.add_mul] at h1
    omega
  · obtain ⟨p1, p2, p3, p4, p5, p6⟩ := P
    obtain ⟨q1, -, -, -, q5, -⟩ := p3 k hk
    rw [h12] at q1
    have q10 := (q5 h12).2.2.2
    rw [h0] at q10
    rw [sw_self, r_do0 p1 p2 hk ht h3 q1 q10 (hx τ ⟨p1, p2, p3, p4, p5, p6⟩)]
/-- the rest of a loop whose body tells nothing, from its end on -/
theorem q_end {d x D : Nat} (hd : d < x) (hx : x < T) (h12 : kd (ps d) = 12) (h13 : kd (ps x) = 13) (hm : ∀ τ, PM F kd vl ps dp T c τ → τ.2.1 11 x = nI d) (hD : D < 3) {s : Nat} (hq : ∀ (τ : St) (t : Nat), PM F kd vl ps dp T c τ → τ.2.1 19 6 = nI t → t < 300 → ∃ f, (∀ l, l < D + 1 → f l = τ.2.1 18 l) ∧ ∀ (n : Nat) (y : Int32), f_X8_runs_6 F (n + s) τ (nI (d + 1)) (nI (D + 1)) y = f_X8_runs_6 F n (sw τ 18 f) (nI x) (nI (D + 1)) y) : ∀ (g rr : Nat), rr + g + 1 = vl (ps d + 1) → ∀ (τ : St) (t : Nat), PM F kd vl ps dp T c τ → τ.2.1 19 6 = nI t → t < 300 → τ.2.1 18 D = nI rr → ∃ f, (∀ l, l < D → f l = τ.2.1 18 l) ∧ ∀ (n : Nat) (y : Int32), f_X8_runs_6 F (n + (1 + g * (s + 1))) τ (nI x) (nI (D + 1)) y = f_X8_runs_6 F n (sw τ 18 f) (nI (x + 1)) (nI D) y := by
  intro g
  induction g with
  | zero =>
    intro rr hg τ t P ht h3 h18
    have P' := P
    obtain ⟨p1, p2, p3, p4, p5, p6⟩ := P
    have v99 := p6 d (by omega) h12
    have q1 := (p3 x hx).1
    rw [h13] at q1
    have q10 := ((p3 d (by omega)).2.2.2.2.1 h12).2.2.2
    refine ⟨upd (τ.2.1 18) D (nI (rr + 1)), fun l hl => pk_un (by omega), fun n y => ?_⟩
    rw [show n + (1 + 0 * (s + 1)) = n + 1 by omega, r_end p1 p2 hx ht h3 q1 (hm τ P') (by omega) q10 (by omega) hD h18 (by omega), if_pos (by omega)]
    rfl
  | succ g ih =>
    intro rr hg τ t P ht h3 h18
    have P' := P
    obtain ⟨p1, p2, p3, p4, p5, p6⟩ := P
    have v99 := p6 d (by omega) h12
    have q1 := (p3 x hx).1
    rw [h13] at q1
    have q10 := ((p3 d (by omega)).2.2.2.2.1 h12).2.2.2
    have P1 : PM F kd vl ps dp T c (sr τ 18 D (nI (rr + 1))) := P'.sr (by omega)
    obtain ⟨f1, x1, x2⟩ := hq (sr τ 18 D (nI (rr + 1))) t P1 (by rw [sr_ne (by omega)]; exact ht) h3
    have e18 : f1 D = nI (rr + 1) := by rw [x1 D (by omega), sr_same]; exact pk_us
    obtain ⟨f2, y1, y2⟩ := ih (rr + 1) (by omega) (sw (sr τ 18 D (nI (rr + 1))) 18 f1) t (P1.sw (by omega)) (by rw [sw_ne (by omega), sr_ne (by omega)]; exact ht) h3 (by rw [sw_at]; exact e18)
    refine ⟨f2, fun l hl => ?_, fun n y => ?_⟩
    · rw [y1 l hl, sw_at, x1 l (by omega), sr_same]; exact pk_un (by omega)
    · have es : n + (1 + (g + 1) * (s + 1)) = n + (1 + g * (s + 1)) + s + 1 := by rw [Nat.add_mul]; omega
      rw [es, r_end p1 p2 hx ht h3 q1 (hm τ P') (by omega) q10 (by omega) hD h18 (by omega), if_neg (by omega), x2, y2, sw_sw, sr_as, sw_sw]
theorem QB.loop {d x D : Nat} (hd : d < x) (hx : x < T) (h12 : kd (ps d) = 12) (h13 : kd (ps x) = 13) (hm : ∀ τ, PM F kd vl ps dp T c τ → τ.2.1 11 x = nI d) (hD : D < 3) (h0 : 0 < vl (ps d + 1)) (h99 : vl (ps d + 1) ≤ 99) (hq : QB F kd vl ps dp T c (d + 1) x (D + 1)) : QB F kd vl ps dp T c d (x + 1) D := by
  obtain ⟨s, b, hq⟩ := hq
  obtain ⟨m, hv⟩ : ∃ m, vl (ps d + 1) = m + 1 := ⟨vl (ps d + 1) - 1, by omega⟩
  have qe := q_end hd hx h12 h13 hm hD hq m 0 (by omega)
  refine ⟨1 + s + (1 + m * (s + 1)), ?_, fun τ t P ht h3 => ?_⟩
  · have hms : m * (s + 1) ≤ 98 * (s + 1) := Nat.mul_le_mul_right _ (by omega)
    have h3 : D = 0 ∨ D = 1 ∨ D = 2 := by omega
    rcases h3 with z | z | z <;> subst z
    · have c0 : cQ 0 = 1000000 := rfl
      have c1 : cQ (0 + 1) = 10000 := rfl
      rw [c0]; rw [c1] at b; omega
    · have c0 : cQ 1 = 10000 := rfl
      have c1 : cQ (1 + 1) = 100 := rfl
      rw [c0]; rw [c1] at b; omega
    · have c0 : cQ 2 = 100 := rfl
      have c1 : cQ (2 + 1) = 1 := rfl
      rw [c0]; rw [c1] at b; omega
  · have P' := P
    obtain ⟨p1, p2, p3, p4, p5, p6⟩ := P
    have q1 := (p3 d (by omega)).1
    rw [h12] at q1
    have q10 := ((p3 d (by omega)).2.2.2.2.1 h12).2.2.2
    rw [hv] at q10
    have P1 : PM F kd vl ps dp T c (sr τ 18 D (nI 0)) := P'.sr (by omega)
    obtain ⟨f1, x1, x2⟩ := hq (sr τ 18 D (nI 0)) t P1 (by rw [sr_ne (by omega)]; exact ht) h3
    have e18 : f1 D = nI 0 := by rw [x1 D (by omega), sr_same]; exact pk_us
    obtain ⟨f2, y1, y2⟩ := qe (sw (sr τ 18 D (nI 0)) 18 f1) t (P1.sw (by omega)) (by rw [sw_ne (by omega), sr_ne (by omega)]; exact ht) h3 (by rw [sw_at]; exact e18)
    refine ⟨f2, fun l hl => ?_, fun n y => ?_⟩
    · rw [y1 l hl, sw_at, x1 l (by omega), sr_same]; exact pk_un (by omega)
    · have es : n + (1 + s + (1 + m * (s + 1))) = n + (1 + m * (s + 1)) + s + 1 := by omega
      rw [es, r_do1 p1 p2 (by omega) ht h3 q1 q10 (by omega) hD, x2, y2, sw_sw, sr_as, sw_sw]
end
