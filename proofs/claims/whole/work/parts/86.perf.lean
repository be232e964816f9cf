/-! PURE: the run of a program, on both sides -/
section
variable {F : Nat} {kd vl pl : Nat → Nat} {e : Nat} {ps dp : Nat → Nat} {T c : Nat}
theorem cnt_le {f : Nat → Int32} {t : Nat} : ∀ n, cnt f t n ≤ n
  | 0 => Nat.le_refl _
  | n + 1 => by
    have := cnt_le (f := f) (t := t) n
    show cnt f t n + (if f n = nI t then 0 else 1) ≤ n + 1
    split <;> omega
theorem Lv_row {σ τ : St} {t : Nat} : ∀ {ob : List Nat} {x u : Nat}, Lv F kd vl ps dp T c σ τ t x u ob → ∀ l, l < ob.length → σ.2.1 30 l = τ.2.1 18 l
  | [], _, _, _, l, h => absurd h (Nat.not_lt_zero _)
  | d :: r, x, u, q, l, h => by
    obtain ⟨q1, q2, rr, ta, q3, q4, q5, q6, q7, q8, q9⟩ := q
    by_cases z : l = r.length
    · rw [z, q3, q4]
    · have h' : l < r.length + 1 := h
      exact Lv_row q9 l (by omega)
theorem u0_c {D : Nat} {f g : Nat → Int32} (h : ∀ l, l < D → f l = g l) : u0 D f = u0 D g := by
  unfold u0
  by_cases z : D = 0
  · rw [if_pos z, if_pos z]
  · rw [if_neg z, if_neg z]; exact h _ (by omega)
theorem u1_c {D : Nat} {f g : Nat → Int32} (h : ∀ l, l < D → f l = g l) : u1 D f = u1 D g := by
  unfold u1
  by_cases z : D ≤ 1
  · rw [if_pos z, if_pos z]
  · rw [if_neg z, if_neg z]; exact h _ (by omega)
def FrP (σ σ' : St) : Prop := ∀ i, i < 3 ∨ 31 < i → σ'.1 i = σ.1 i
def FmR (τ τ' : St) : Prop := (∀ k, k < 15 ∨ 18 < k → τ'.1 k = τ.1 k) ∧ (∀ r, r < 16 ∨ 21 < r → τ'.2.1 r = τ.2.1 r) ∧ τ'.2.2 = τ.2.2
theorem FmR.trans {a b d : St} (h : FmR a b) (k : FmR b d) : FmR a d := ⟨fun i hi => (k.1 i hi).trans (h.1 i hi), fun i hi => (k.2.1 i hi).trans (h.2.1 i hi), k.2.2.trans h.2.2⟩
theorem rk_end {σ : St} (h : σ.1 28 = nI 29) : rkn F σ = some (0, σ) := by
  have sA : nI 29 - (2 : Int32) = nI 27 := by decide
  have c0 : ¬ nI 27 < (0 : Int32) := by decide
  have c1 : ¬ nI 27 < (10 : Int32) := by decide
  have hr : f_X4_reckon F σ = some (0, σ) := by
    unfold f_X4_reckon
    rw [h, sA, bnd_i, if_neg c0, if_neg c1]
  unfold rkn
  rw [cal2_w hr, if_pos (Or.inl rfl)]
theorem perf (Ev : EnvP F kd vl pl e ps dp T) (hF : 1000 < F) (hc : c ≤ 400) {S : Nat} (hS : 804 * 200000000 + 1 ≤ S) : ∀ (g t k : Nat) (ob : List Nat) (σ τ : St) (x : Int32) (nd n : Nat), t + g = 300 → g < nd → (g + 1) * S ≤ n → RS F kd vl pl e ps dp T c t k ob σ τ → Core σ τ → σ.1 3 = nI t → nw τ 6 = nI t → ∃ σ' τ', f_X7_perform_23 F nd σ x (nI t) = some σ' ∧ f_X8_runs_6 F n τ (nI k) (nI ob.length) x = some τ' ∧ Core σ' τ' ∧ σ'.1 3 = nw τ' 6 ∧ FrP σ σ' ∧ FmR τ τ' := by
  intro g
  induction g with
  | zero =>
    intro t k ob σ τ x nd n htg hnd hn R C h3 h6
    have t3 : t = 300 := by omega
    subst t3
    obtain ⟨nd1, rfl⟩ : ∃ m, nd = m + 1 := ⟨nd - 1, by omega⟩
    have hS1 : 1 ≤ S := Nat.le_trans (Nat.succ_le_succ (Nat.zero_le _)) hS
    obtain ⟨n1, rfl⟩ : ∃ m, n = m + 1 := by
      clear hS
      exact ⟨n - 1, by omega⟩
    obtain ⟨P, D, h26, h27, hob, hkT, L⟩ := R
    have hT2 := P.2.1
    have x300 : (300 : Int32) ≤ nI 300 := by decide
    refine ⟨σ, τ, ?_, ?_, C, by rw [h3, h6], fun _ _ => rfl, ⟨fun _ _ => rfl, fun _ _ => rfl, rfl⟩⟩
    · rw [f_X7_perform_23, if_pos x300]
    · rw [f_X8_runs_6, P.1]
      by_cases z : nI T ≤ nI k
      · rw [if_pos z]
      · have h6' : τ.2.1 19 6 = nI 300 := h6
        rw [if_neg z, h6', if_pos x300]
  | succ g ih =>
    intro t k ob σ τ x nd n htg hnd hn R C h3 h6
    obtain ⟨nd1, rfl⟩ : ∃ m, nd = m + 1 := ⟨nd - 1, by omega⟩
    have h6' : τ.2.1 19 6 = nI t := h6
    have hN := C.1
    have hN1 := C.1.1
    have hnow := d_now (F := F) C.1.1 C.2.1
    have hgo := d_going (F := F) C.1 C.2
    obtain ⟨b1, b2, b3, b4, b5, b6, b7, b8⟩ := NNb C.1
    have x300 : ¬ (300 : Int32) ≤ nI t := by
      show ¬ nI 300 ≤ nI t
      rw [n_le (by omega) (by omega)]; omega
    have h8 : σ.1 8 = nw τ 5 := C.2.1.1.2.2.2.2
    generalize hk0 : sr (sr (sr (sr σ 32 2 (nI (tp (nw τ) (nl (nw τ) - 1)))) 32 3 (nI (nl (nw τ) - 1))) 32 4 (σ.1 8)) 32 5 x = σk
    have kn : f_X4_know F σ (nI (tp (nw τ) (nl (nw τ) - 1))) (nI (nl (nw τ) - 1)) (σ.1 8) x = some σk := by
      unfold f_X4_know
      rw [bnd_i, bnd_i, bnd_i, bnd_i, hk0]
    have fk : σk.1 = σ.1 := by rw [← hk0]; rfl
    have rk : ∀ r, r ≠ 32 → σk.2.1 r = σ.2.1 r := fun r hr => by rw [← hk0, sr_ne hr, sr_ne hr, sr_ne hr, sr_ne hr]
    have wk : (∀ i, i < 26 ∨ 31 < i → σk.1 i = σ.1 i) ∧ (∀ r, r ≠ 32 → σk.2.1 r = σ.2.1 r) := ⟨fun i _ => by rw [fk], rk⟩
    have r32 : σk.2.1 32 = upd (upd (upd (upd (σ.2.1 32) 2 (nI (tp (nw τ) (nl (nw τ) - 1)))) 3 (nI (nl (nw τ) - 1))) 4 (σ.1 8)) 5 x := by rw [← hk0, sr_same, sr_same, sr_same, sr_same]
    obtain ⟨P, D, h26, h27, hob, hkT, L⟩ := R
    have Dk : TkD kd vl pl e σk := ⟨by rw [fk]; exact D.1, fun i hi => by rw [rk 26 (by omega), rk 27 (by omega), rk 28 (by omega)]; exact D.2 i hi⟩
    have dp3 : dp k ≤ 3 := by
      by_cases z : k = T
      · rw [z, Ev.2.2.2.2.2.2]; omega
      · exact (P.2.2.1 k (by omega)).2.2.2.1
    have R1 : RS F kd vl pl e ps dp T c t k ob σk τ := ⟨P, Dk, by rw [fk]; exact h26, by rw [fk]; exact h27, hob, hkT, Lv_cong (fun l _ => by rw [rk 29 (by omega), rk 30 (by omega), rk 31 (by omega)]; exact ⟨rfl, rfl, rfl, rfl⟩) L⟩
    have hcnt := cnt_le (f := σk.2.1 31) (t := t) ob.length
    obtain ⟨k', ob', σ1, f, s, y1, R2, w1, y4, y5, y6⟩ := walk Ev (show t < 300 by omega) 804 k ob σk τ F 0 R1 (by omega) (by omega) (by omega) h6'
    have y1S : s + 1 ≤ S := Nat.le_trans (Nat.succ_le_succ y1) hS
    have hn2 : (g + 1) * S + S ≤ n := by rw [← Nat.succ_mul]; exact hn
    clear y1
    obtain ⟨n1, hn1⟩ : ∃ m, n = m + 1 + s ∧ (g + 1) * S ≤ m := by
      clear hS
      exact ⟨n - 1 - s, by omega, by omega⟩
    have y6' : f_X4_next F σk (nI t) = rkn F (ss σ1 28 (nI (kd (ps k')))) := y6
    obtain ⟨P1, D1, g26, g27, gob, gkT, L1⟩ := R2
    have hT2 := P1.2.1
    have perf1 : ∀ r6 t7, rkn F (ss σ1 28 (nI (kd (ps k')))) = some (r6, t7) → f_X7_perform_23 F (nd1 + 1) σ x (nI t) = if r6 = 0 then (some t7) else (cal2 (f_X7_tell F t7 (t7.1 28) (t7.1 29) (t7.1 30) (t7.1 31)) (fun r8 t9 => bnd (ss t9 3 ((t9.1 3) + 1)) (fun t10 => bnd (nI t + 1) (fun v11 => f_X7_perform_23 F nd1 t10 r8 v11)))) := by
      intro r6 t7 hr
      have hnx : f_X4_next F σk (σk.1 3) = some (r6, t7) := by rw [fk, h3, y6']; exact hr
      rw [f_X7_perform_23, if_neg x300, cal_w hnow, cal_w hgo, cal_w kn, cal2_w hnx]
    have Cm : ∀ σ', (∀ i, 4 ≤ i → i ≤ 10 → σ'.1 i = σ.1 i) → (∀ r, 11 ≤ r → r ≤ 24 → σ'.2.1 r = σ.2.1 r) → JJ σ' (nw τ) := fun σ' q1 q2 => JJ_same C.2 q1 q2
    rcases y4 with hkT' | ⟨hk', k11⟩
    · have k29 : kd (ps k') = 29 := by rw [hkT']; exact Ev.2.2.2.2.2.1
      rw [k29] at perf1
      have hp := perf1 _ _ (rk_end (F := F) (σ := ss σ1 28 (nI 29)) ss_same)
      rw [if_pos rfl] at hp
      refine ⟨_, sw τ 18 f, hp, ?_, ⟨?_, ?_⟩, ?_, fun i hi => ?_, ⟨fun _ _ => rfl, fun r hr => sw_ne (by omega), rfl⟩⟩
      · rw [hn1.1, y5, f_X8_runs_6, P1.1, if_pos (by rw [hkT']; exact Int32.le_refl _)]
      · show NN ((sw τ 18 f).2.1 19)
        rw [sw_ne (by omega)]; exact hN
      · show JJ _ ((sw τ 18 f).2.1 19)
        rw [sw_ne (by omega)]
        refine Cm _ (fun i h1 h2 => ?_) (fun r h1 h2 => ?_)
        · rw [ss_ne (by omega), w1.1 i (by omega), wk.1 i (by omega)]
        · rw [ss_r, w1.2.1 r (by omega), wk.2 r (by omega)]
      · show _ = (sw τ 18 f).2.1 19 6
        rw [sw_ne (by omega), ss_ne (by omega), w1.1 3 (by omega), wk.1 3 (by omega), h3, h6']
      · rw [ss_ne (by omega), w1.1 i (by omega), wk.1 i (by omega)]
    · obtain ⟨p1, p2, p3, p4, p5, p6, p7⟩ := P1.2.2.1 k' hk'
      obtain ⟨p7a, p7b⟩ := p7 k11
      obtain ⟨q, hq⟩ : ∃ q, kd (ps k') = q + 2 := ⟨kd (ps k') - 2, by omega⟩
      have hq10 : q < 10 := by omega
      have eq2 : q + 2 - 2 = q := rfl
      rw [hq, eq2] at p1 p7a p7b
      rw [hq] at perf1
      have hT := Ev.2.2.2.1
      have hT4 := Ev.2.2.2.2.1
      have l2 := ps_le P1 (k := k' + 1) (T - (k' + 1)) (by omega)
      rw [show k' + 1 + (T - (k' + 1)) = T by omega] at l2
      generalize hs1 : ss σ1 28 (nI (q + 2)) = s1 at perf1
      have ws : FrW σk s1 := by rw [← hs1]; exact w1.ss (by omega)
      have es : s1.2 = σ1.2 := by rw [← hs1]; rfl
      have ob3 : ob'.length ≤ 3 := by omega
      generalize hvr : vrF ob'.length (s1.2.1 30) (s1.2.1 32) = vr
      obtain ⟨va, Va⟩ := argV (c := c) (pl := pl) (k := k') hF Ev.1 (a := ps k') (by omega) (by omega) hq10 (by omega) hc p1 p7b vr (show 0 < 3 by omega)
      obtain ⟨vb, Vb⟩ := argV (c := c) (pl := pl) (k := k') hF Ev.1 (a := ps k') (by omega) (by omega) hq10 (by omega) hc p1 p7b vr (show 1 < 3 by omega)
      obtain ⟨vc, Vc⟩ := argV (c := c) (pl := pl) (k := k') hF Ev.1 (a := ps k') (by omega) (by omega) hq10 (by omega) hc p1 p7b vr (show 2 < 3 by omega)
      have Ds : TkD kd vl pl e s1 := Dk.frW ws
      obtain ⟨s2, z1, z2, z3, z4, z5, z6, z7, z8⟩ := d_reck (k := k') (τ := sw τ 18 f) (va := va) (vb := vb) (vc := vc) Ds (by rw [← hs1]; exact ss_same) hq10 (by rw [← hs1, ss_ne (by omega)]; exact g26) (by rw [← hs1, ss_ne (by omega)]; exact g27) ob3 (by rw [hvr]; exact Va) (by rw [hvr]; exact Vb) (by rw [hvr]; exact Vc)
      have hrk : rkn F s1 = some (1, s2) := by
        have z1' : f_X4_reckon F s1 = some (1, s2) := z1
        unfold rkn
        rw [cal2_w z1', if_pos (Or.inr rfl)]
      have hp := perf1 _ _ hrk
      have n01 : ¬ (1 : Int32) = 0 := by decide
      have s28 : s2.1 28 = nI (q + 2) := by rw [z6 28 (by omega), ← hs1]; exact ss_same
      rw [if_neg n01, s28, z2, z3, z4] at hp
      -- the model
      have w32 : s1.2.1 32 = σk.2.1 32 := ws.2.1 32 (by omega)
      have w30 : ∀ l, l < ob'.length → s1.2.1 30 l = (sw τ 18 f).2.1 18 l := fun l hl => by rw [es]; exact Lv_row L1 l hl
      have e19 : (sw τ 18 f).2.1 19 = τ.2.1 19 := sw_ne (by omega)
      have hN3 : τ.2.1 19 3 = nI (nl (nw τ) - 1) := hN1.2.2.2.1
      have htp : τ.2.1 19 (20 + 4 * (nl (nw τ) - 1)) = nI (tp (nw τ) (nl (nw τ) - 1)) := (hN.2.1.1 (nl (nw τ) - 1) (by omega)).1
      have v0 : vr 0 = u0 ob'.length ((sw τ 18 f).2.1 18) := by rw [← hvr, ← u0_c w30]; rfl
      have v1 : vr 1 = u1 ob'.length ((sw τ 18 f).2.1 18) := by rw [← hvr, ← u1_c w30]; rfl
      have v2 : vr 2 = (sw τ 18 f).2.1 19 (20 + 4 * (nl (nw τ) - 1)) := by
        rw [e19, htp, ← hvr]
        show s1.2.1 32 2 = _
        rw [w32, r32, pk_un (by omega), pk_un (by omega), pk_un (by omega), pk_us]
      have v3 : vr 3 = (sw τ 18 f).2.1 19 3 := by
        rw [e19, hN3, ← hvr]
        show s1.2.1 32 3 = _
        rw [w32, r32, pk_un (by omega), pk_un (by omega), pk_us]
      have v4 : vr 4 = (sw τ 18 f).2.1 19 5 := by
        rw [e19, ← hvr]
        show s1.2.1 32 4 = _
        rw [w32, r32, pk_un (by omega), pk_us]; exact h8
      have v5 : vr 5 = x := by
        rw [← hvr]
        show s1.2.1 32 5 = _
        rw [w32, r32, pk_us]
      obtain ⟨τ1, m1', m2', m3, m4, m5⟩ := t_run (n := n1) (x := x) (a := ps k') (l := nl (nw τ) - 1) P1.1 P1.2.1 hk' (by rw [e19]; exact h6') (by omega) p1 hq10 ob3 (by rw [e19]; exact hN3) (by omega) v0 v1 v2 v3 v4 v5 Va Vb Vc
      rw [e19] at m4
      have e6 : ∀ i, i < 7164 → i ≠ 6 → nw τ1 i = nw τ i := fun i _ hi => by
        show τ1.2.1 19 i = τ.2.1 19 i
        rw [m4]; exact pk_un hi
      have n6 : nw τ1 6 = nI (t + 1) := by
        show τ1.2.1 19 6 = _
        rw [m4]; exact pk_us
      have C1 : Core s2 τ1 := by
        refine ⟨NN_cong6 ⟨t + 1, by omega, n6⟩ e6 hN, JJ_cong6 e6 hN (Cm _ (fun i h1 h2 => ?_) (fun r h1 h2 => ?_))⟩
        · rw [z6 i (by omega), ws.1 i (by omega), wk.1 i (by omega)]
        · rw [z7 r (by omega), ws.2.1 r (by omega), wk.2 r (by omega)]
      obtain ⟨r8, s3, τ3, o1, o2, o3, o4, o5, o6⟩ := op_tell (F := F) (by omega) C1 hq10 va vb vc
      have s33 : s3.1 3 = nI t := by rw [o4.1 3 (by omega), z6 3 (by omega), ws.1 3 (by omega), wk.1 3 (by omega)]; exact h3
      have eA : nI t + (1 : Int32) = nI (t + 1) := n_add t 1
      rw [cal2_w o1, bnd_i, s33, eA, bnd_i] at hp
      rw [cal2_w o2] at m1'
      have P3 : PM F kd vl ps dp T c τ3 := by
        refine P1.keep ?_ (fun r h1 h2 => ?_)
        · rw [o5.1 11 (by omega), m2']
        · rw [o5.2.1 r (by omega), m3 r (by omega) (by omega) (by omega)]
      have hdk := Ev.2.2.1 k'
      rw [if_neg (by omega), if_neg (by omega)] at hdk
      have R3 : RS F kd vl pl e ps dp T c (t + 1) (k' + 1) ob' (ss s3 3 (nI (t + 1))) τ3 := by
        refine ⟨P3, ⟨?_, fun i hi => ?_⟩, ?_, ?_, by omega, by omega, ?_⟩
        · rw [ss_ne (by omega), o4.1 19 (by omega), z6 19 (by omega)]; exact Ds.1
        · rw [ss_r, o4.2.1 26 (by omega), o4.2.1 27 (by omega), o4.2.1 28 (by omega), z7 26 (by omega), z7 27 (by omega), z7 28 (by omega)]; exact Ds.2 i hi
        · rw [ss_ne (by omega), o4.1 26 (by omega), z5, p7a]
        · rw [ss_ne (by omega), o4.1 27 (by omega), z6 27 (by omega), ← hs1, ss_ne (by omega)]; exact g27
        · refine Lv_cong (σ := σ1) (τ := sw τ 18 f) (fun l _ => ?_) (Lv_fw (Lv_t (show t < t + 1 by omega) (Nat.le_refl _) L1) (by omega) (by omega) (by omega) (fun j h1 h2 => ?_) (fun z => by omega))
          · rw [ss_r, o4.2.1 29 (by omega), o4.2.1 30 (by omega), o4.2.1 31 (by omega), z7 29 (by omega), z7 30 (by omega), z7 31 (by omega), es, o5.2.1 18 (by omega), m3 18 (by omega) (by omega) (by omega)]
            exact ⟨rfl, rfl, rfl, rfl⟩
          · have : j = k' + 1 := by omega
            rw [this]; omega
      have C3 : Core (ss s3 3 (nI (t + 1))) τ3 := ⟨o3.1, JJ_same o3.2 (fun i h1 h2 => ss_ne (by omega)) (fun r _ _ => by rw [ss_r])⟩
      obtain ⟨σ', τ', i1, i2, i3, i4, i5, i6⟩ := ih (t + 1) (k' + 1) ob' (ss s3 3 (nI (t + 1))) τ3 r8 nd1 n1 (by omega) (by omega) hn1.2 R3 C3 ss_same (by rw [o6]; exact n6)
      refine ⟨σ', τ', by rw [hp]; exact i1, ?_, i3, i4, fun i hi => ?_, ?_⟩
      · rw [hn1.1, y5, m1']; exact i2
      · rw [i5 i hi, ss_ne (by omega), o4.1 i (by omega), z6 i (by omega), ws.1 i (by omega), wk.1 i (by omega)]
      · refine FmR.trans ⟨fun i hi => ?_, fun r hr => ?_, ?_⟩ i6
        · rw [o5.1 i (by omega), m2']; rfl
        · rw [o5.2.1 r (by omega), m3 r (by omega) (by omega) (by omega)]; exact sw_ne (by omega)
        · rw [o5.2.2, m5]; rfl
end
