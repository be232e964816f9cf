def wR (g : Gp) (σ : St) : va_W := [(ga g 0, .inr (8, [.ref (ga g 1), .ref (ga g 2), .ref (ga g 3), .ref (ga g 4), .ref (ga g 34), .int (σ.1 0), .ref (ga g 9), .int (σ.1 1), .int (σ.1 2), .int (σ.1 3), .ref (ga g 5), .ref (ga g 6), .ref (ga g 7), .ref (ga g 10), .ref (ga g 8)])), (ga g 4, .inr (4, [.ref (ga g 1), .ref (ga g 2), .ref (ga g 3), .ref (ga g 25), .int (σ.1 11), .int (σ.1 12), .int (σ.1 13), .int (σ.1 14), .int (σ.1 15), .int (σ.1 16), .int (σ.1 17), .int (σ.1 18)])), (ga g 5, .inr (7, [.int (σ.1 19), .ref (ga g 26), .ref (ga g 27), .ref (ga g 28)])), (ga g 6, .inr (2, [.ref (ga g 5), .int (σ.1 20), .int (σ.1 21), .int (σ.1 22), .int (σ.1 23), .int (σ.1 24), .int (σ.1 25)])), (ga g 7, .inr (5, [.ref (ga g 5), .int (σ.1 26), .int (σ.1 27), .ref (ga g 29), .ref (ga g 30), .ref (ga g 31), .ref (ga g 32), .int (σ.1 28), .int (σ.1 29), .int (σ.1 30), .int (σ.1 31)])), (ga g 8, .inr (0, [.ref (ga g 33), .int (σ.1 32), .int (σ.1 33), .int (σ.1 34)])), (ga g 9, .inl (gc g 0, 2000, .inl (σ.2.1 9))), (ga g 10, .inl (gc g 0, 241, .inl (σ.2.1 10))), (ga g 25, .inl (gc g 1, 8, .inl (σ.2.1 25))), (ga g 26, .inl (gc g 1, 402, .inl (σ.2.1 26))), (ga g 27, .inl (gc g 1, 402, .inl (σ.2.1 27))), (ga g 28, .inl (gc g 1, 402, .inl (σ.2.1 28))), (ga g 29, .inl (gc g 1, 3, .inl (σ.2.1 29))), (ga g 30, .inl (gc g 1, 3, .inl (σ.2.1 30))), (ga g 31, .inl (gc g 1, 3, .inl (σ.2.1 31))), (ga g 32, .inl (gc g 1, 6, .inl (σ.2.1 32))), (ga g 33, .inl (gc g 0, 16, .inl (σ.2.1 33)))]
/-- the row of the slots, and the stores in it -/
def slC (g : Gp) (ex : Nat → Bool) : Nat × va_E := (ga g 34, .inl (gc g 4, 3, .inr (.inr (.inr (.inr (fun k => if ex k = true then some (ga g (200 + 40 * k + 1)) else none))))))
def blK (g : Gp) (k : Nat) (β : St) : va_W := blA g (fun i => ga g (200 + 40 * k + i)) β
def slB (g : Gp) (ex : Nat → Bool) (β : Nat → St) (k : Nat) : va_W := if ex k = true then blK g k (β k) else []
def slW (g : Gp) (ex : Nat → Bool) (β : Nat → St) : va_W := slC g ex :: (slB g ex β 0 ++ (slB g ex β 1 ++ slB g ex β 2))
theorem slP (f : Nat → va_W) {k : Nat} (hk : k < 3) : ∃ pl : va_W, ∀ f' : Nat → va_W, (∀ j, j ≠ k → f' j = f j) → (f' 0 ++ (f' 1 ++ f' 2)).Perm (f' k ++ pl) := by
  rcases (show k = 0 ∨ k = 1 ∨ k = 2 by omega) with rfl | rfl | rfl
  · exact ⟨f 1 ++ f 2, fun f' h => by rw [h 1 (by decide), h 2 (by decide)]⟩
  · exact ⟨f 0 ++ f 2, fun f' h => by rw [h 0 (by decide), h 2 (by decide)]; exact List.perm_append_comm_assoc _ _ _⟩
  · exact ⟨f 0 ++ f 1, fun f' h => by rw [h 0 (by decide), h 1 (by decide), ← List.append_assoc]; exact List.perm_append_comm⟩
theorem slPX {a X : va_W} {c : Nat × va_E} {t u pl : va_W} (h : t.Perm (u ++ pl)) : ((a ++ (c :: t)) ++ X).Perm (a ++ (c :: (u ++ (pl ++ X)))) := by
  rw [List.append_assoc, List.cons_append]
  refine List.Perm.append_left a (List.Perm.cons c ?_)
  rw [← List.append_assoc]
  exact List.Perm.append_right X h
theorem rZretQ {p : Program} {l : Launch} {e : Env} {R : Room} {s : State} {m : MethodId} {args : Array Value} {below : List Frame} {meth : Method} {c : Code} {H : Heap} {locs : List Loc} {cells slots : Nat} {g : Gp} {cc : ByteArray} {pc nL : Nat} {ls : Array Slot} {own : String} {S : Type} {post : Int32 → S → Prop} {Bw : S → va_W} {v : Int32} (C : Cx g p s m args meth c cc nL own) (hr : meth.sig.returnType = some .boolean) (u : S) (hv : v = 0 ∨ v = 1) (hp : post v u) (hd : Dy g (Bw u) s H locs) (hdg : decode cc pc = .ok (.ireturn, 1)) : W p l e R s m args below meth c H locs cells slots (MQ below (va_Qi post (fun u => Pw g (Bw u)) (gA g)) args s cells slots (gA g)) (F0 m pc ls [.int v]) := by
  obtain ⟨hx, hb, hml, hown, hlocks, hts, hK, hSt, hE⟩ := C
  exact W.zret hx hb hr (nar01 hv) (fun t ht hW => ⟨⟨v, u, rfl, hp, hd.pw hSt ht hW⟩, hd.2.2.F ht⟩) hd.2.2.2.2 hdg hlocks

/-- hold and again, as functions -/
def hok (x : Int32) : Bool := decide (¬ x < 0 ∧ x < 3)
def hS (σ : St) (x : Int32) : St := if hok x = true then ss σ 0 ((σ.1 0) ||| ((1 : Int32) <<< (x &&& 31))) else σ
def hX (ex : Nat → Bool) (x : Int32) : Nat → Bool := if hok x = true then (fun j => if j = x.toNatClampNeg then true else ex j) else ex
def hB (β : Nat → St) (σ : St) (x : Int32) : Nat → St := if hok x = true then (fun j => if j = x.toNatClampNeg then σ else β j) else β
def aok (σ : St) (ex : Nat → Bool) (x : Int32) : Bool := decide (¬ x < 0 ∧ x < 3 ∧ (¬ ((σ.1 0) >>> (x &&& 31)) &&& (1 : Int32) = 0) ∧ ex x.toNatClampNeg = true)
def aS (σ : St) (ex : Nat → Bool) (β : Nat → St) (x : Int32) : St := if aok σ ex x = true then cpA σ (β x.toNatClampNeg) else σ
theorem k3 {x : Int32} (h0 : ¬ x < 0) (h : x < 3) : x.toNatClampNeg < 3 ∧ vp_in x 3 := by
  have h1 : x.toInt < 3 := by
    have := Int32.lt_iff_toInt_lt.mp h
    simpa using this
  have h2 : x.toNatClampNeg < 3 := by
    show x.toInt.toNat < 3
    omega
  exact ⟨h2, fun q => by rcases q with q | q; exact h0 q; omega⟩
theorem kX7_422 : LKv RX7 422 yX5_become cX5_become 2 none 1 := ⟨mT 1271 (by decide +kernel), mT 1272 (by decide +kernel), mT 1273 (by decide +kernel), mT 2 (by decide +kernel), mT 1274 (by decide +kernel), ⟨by decide +kernel, by decide +kernel⟩, by decide +kernel⟩
theorem pX7_39h {p : Program} {l : Launch} {e : Env} {R : Room} {s : State} {m : MethodId} {args : Array Value} {below : List Frame} {meth : Method} {c : Code} {H : Heap} {locs : List Loc} {cells slots : Nat} {Q : State → Prop} {g : Gp} {cc : ByteArray} {pc nL : Nat} {ls : Array Slot} {rest : List Value} {X : va_W} {σ t : St} {v : Int32} (C : Cx g p s m args meth c cc nL RX7) (hd : Dy g (wD g σ ++ X) s H locs) (ht : t = ss σ 0 v) (hdg : decode cc pc = .ok (.putfield 39, 3)) (kk : ∀ (H1 : Heap) (locs1 : List Loc), Dy g (wD g t ++ X) s H1 locs1 → W p l e R s m args below meth c H1 locs1 cells slots Q (F0 m (pc + 3) ls rest)) : W p l e R s m args below meth c H locs cells slots Q (F0 m pc ls (.int v :: .ref (ga g 0) :: rest)) := rPut C hd 0 rfl rfl inX7 tyX7 tyX7_ok nmX7 5 (by decide) (mT 318 (by decide +kernel)) rfl rfl (Nat.le_of_ble_eq_true rfl) (by subst ht; rfl) hdg kk
theorem gX7_35 {p : Program} {l : Launch} {e : Env} {R : Room} {s : State} {m : MethodId} {args : Array Value} {below : List Frame} {meth : Method} {c : Code} {H : Heap} {locs : List Loc} {cells slots : Nat} {Q : State → Prop} {g : Gp} {cc : ByteArray} {pc nL : Nat} {ls : Array Slot} {rest : List Value} {X : va_W} {σ : St} (C : Cx g p s m args meth c cc nL RX7) (hd : Dy g (wD g σ ++ X) s H locs) (hdg : decode cc pc = .ok (.getfield 35, 3)) (kk : W p l e R s m args below meth c H locs cells slots Q (F0 m (pc + 3) ls (.ref (ga g 34) :: rest))) : W p l e R s m args below meth c H locs cells slots Q (F0 m pc ls (.ref (ga g 0) :: rest)) := rGet C hd 0 rfl rfl inX7 4 (by decide) (mT 317 (by decide +kernel)) rfl hdg kk
set_option maxRecDepth 100000 in
set_option maxHeartbeats 4000000 in
/-- what comes behind the slot's store is there: it becomes the store, the slot is noted -/
theorem w_X7_hold {p : Program} {l : Launch} {e : Env} {s : State} {m : MethodId} {args : Array Value} {below : List Frame} {meth : Method} {c : Code} {g : Gp} {pl : va_W} {Q : State → Prop} {σ : St} {ex : Nat → Bool} {β : St} {x : Int32} (C : Cx g p s m args meth c cX7_hold 2 RX7) (hf : fitB σ) (h3 : vp_in x 3) (hex : ex x.toNatClampNeg = true)
    (kk : ∀ (H : Heap) (locs : List Loc) (ls : Array Slot), Dy g (wD g (ss σ 0 ((σ.1 0) ||| ((1 : Int32) <<< (x &&& 31)))) ++ (slC g ex :: (blK g x.toNatClampNeg σ ++ pl))) s H locs → W p l e (rmN 4 17 3085) s m args below meth c H locs 17 3085 Q (F0 m 63 ls [.int 1])) :
    ∀ (H : Heap) (locs : List Loc) (ls : Array Slot), Dy g (wD g σ ++ (slC g ex :: (blK g x.toNatClampNeg β ++ pl))) s H locs → lv_has ls 2 [(0, .ref (ga g 0)), (1, .int x)] → W p l e (rmN 4 17 3085) s m args below meth c H locs 17 3085 Q (F0 m 37 ls []) := by
  have hx := C.1
  have hb := C.2.1
  have hE := C.2.2.2.2.2.2.2.2
  have hK := C.2.2.2.2.2.2.1
  intro H locs ls hd hl
  refine lv_aload_n hx hb dX7_hold_37 rfl (lv_at hl 0 rfl) ?_
  refine gX7_35 C hd dX7_hold_38 ?_
  refine lv_iload_n hx hb dX7_hold_41 rfl (lv_at hl 1 rfl) ?_
  refine va_aldq hx hb hK hd.1 34 4 (n := 3) rfl rfl h3 dX7_hold_42 ?_
  have e1 : va_rf ((fun k => if ex k = true then some (ga g (200 + 40 * k + 1)) else none) x.toNatClampNeg) = .ref (ga g (200 + 40 * x.toNatClampNeg + 1)) := by
    show va_rf (if ex x.toNatClampNeg = true then _ else _) = _
    rw [if_pos hex]; rfl
  rw [e1]
  refine lv_aload_n hx hb dX7_hold_43 rfl (lv_at hl 0 rfl) ?_
  refine gX7_10 C hd dX7_hold_44 ?_
  have hd : Dy g ((blA g (fun i => ga g (200 + 40 * x.toNatClampNeg + i)) β ++ blA g (ga g) σ) ++ ((wR g σ ++ [slC g ex]) ++ pl)) s H locs := Dy.part (A := wD g σ ++ ([slC g ex] ++ blK g x.toNatClampNeg β)) (A' := (blA g (fun i => ga g (200 + 40 * x.toNatClampNeg + i)) β ++ blA g (ga g) σ) ++ (wR g σ ++ [slC g ex])) hd [35, 36, 37, 38, 39, 40, 41, 42, 43, 44, 45, 46, 47, 48, 49, 50, 51, 1, 2, 11, 12, 13, 14, 15, 16, 17, 18, 3, 19, 20, 21, 22, 23, 24, 0, 4, 5, 6, 7, 8, 9, 10, 25, 26, 27, 28, 29, 30, 31, 32, 33, 34] (by decide) rfl
  refine rCallV C hd (c_X5_become (b := fun i => ga g (200 + 40 * x.toNatClampNeg + i)) (b' := ga g) hE hf) kX7_422 0 rfl rfl rfl rfl hl.1 rfl (Nat.le_of_ble_eq_true rfl) ⟨Nat.le_of_ble_eq_true rfl, Nat.le_of_ble_eq_true rfl⟩ ⟨Nat.le_refl _, Nat.le_refl _⟩ dX7_hold_47 (fun H locs hd => ?_)
  have hd : Dy g ((blA g (fun i => ga g (200 + 40 * x.toNatClampNeg + i)) σ ++ blA g (ga g) σ) ++ ((wR g σ ++ [slC g ex]) ++ pl)) s H locs := hd
  have hd : Dy g (wD g σ ++ (slC g ex :: (blK g x.toNatClampNeg σ ++ pl))) s H locs := Dy.part (A := (blA g (fun i => ga g (200 + 40 * x.toNatClampNeg + i)) σ ++ blA g (ga g) σ) ++ (wR g σ ++ [slC g ex])) (A' := wD g σ ++ ([slC g ex] ++ blK g x.toNatClampNeg σ)) hd [34, 17, 18, 27, 35, 36, 37, 38, 39, 40, 41, 19, 20, 21, 22, 23, 24, 25, 26, 28, 29, 30, 31, 32, 33, 42, 43, 44, 45, 46, 47, 48, 49, 50, 51, 0, 1, 2, 3, 4, 5, 6, 7, 8, 9, 10, 11, 12, 13, 14, 15, 16] (by decide) rfl
  refine lv_aload_n hx hb dX7_hold_50 rfl (lv_at hl 0 rfl) ?_
  refine lv_dup hx hb dX7_hold_51 rfl ?_
  refine gX7_39 C hd dX7_hold_52 ?_
  refine lv_iconst (v := 1) hx hb dX7_hold_55 ic_1 ?_
  refine lv_iload_n hx hb dX7_hold_56 rfl (lv_at hl 1 rfl) ?_
  refine lv_ishl hx hb dX7_hold_57 ?_
  refine lv_ior hx hb dX7_hold_58 ?_
  refine pX7_39h C hd rfl dX7_hold_59 (fun H locs hd => ?_)
  refine lv_iconst (v := 1) hx hb dX7_hold_62 ic_1 ?_
  exact kk _ _ _ hd
theorem vk_S_congr {N : Nat} {len : List Nat} {byt : List (List Int32)} {aK aV bK bV : Nat → Nat} {A : Nat → Prop} {U : State} {H : Heap} (h : vk_S N len byt aK aV A U H) (hK : ∀ i, i < N → bK i = aK i) (hV : ∀ i, i < N → bV i = aV i) : vk_S N len byt bK bV A U H := by
  refine ⟨fun i hi => ?_, fun i j hi hj e => ?_⟩
  · rw [hK i hi, hV i hi]; exact h.1 i hi
  · rw [hK i hi, hK j hj] at e; exact h.2 i j hi hj e
theorem E0.set2 {g : Gp} {b : Nat → Nat} (hE : E0 g) (hb : ∀ i, 64 ≤ i → i < 200 → b i = ga g i) : E0 (setA g b) := by
  obtain ⟨h1, h2, h3, h4, h5, h6⟩ := hE
  refine ⟨h1, h2, h3, h4, ?_, fun i hi => ?_⟩
  · exact vk_S_congr h5 (fun i hi => hb (100 + i) (by omega) (by omega)) (fun i hi => hb (110 + i) (by omega) (by omega))
  · have e1 : ga (setA g b) (100 + i) = ga g (100 + i) := hb (100 + i) (by omega) (by omega)
    rw [e1]
    exact h6 i hi
theorem Cx.set2 {g : Gp} {b : Nat → Nat} {p : Program} {s : State} {m : MethodId} {args : Array Value} {meth : Method} {c : Code} {cc : ByteArray} {nL : Nat} {own : String} (C : Cx g p s m args meth c cc nL own) (hb : ∀ i, 64 ≤ i → i < 200 → b i = ga g i) : Cx (setA g b) p s m args meth c cc nL own := by
  obtain ⟨hx, hb1, hml, hown, hlocks, hts, hK, hSt, hE⟩ := C
  exact ⟨hx, hb1, hml, hown, hlocks, hts, hK, hSt, hE.set2 hb⟩
theorem wD_set {g : Gp} {u : Nat → Nat} {σ : St} (h : ∀ i, i < 200 → u i = ga g i) : wD (setA g u) σ = wD g σ := by
  have h : ∀ i, i < 200 → ga (setA g u) i = ga g i := h
  unfold wD
  simp only [h 0 (by omega), h 1 (by omega), h 2 (by omega), h 3 (by omega), h 4 (by omega), h 5 (by omega), h 6 (by omega), h 7 (by omega), h 8 (by omega), h 9 (by omega), h 10 (by omega), h 11 (by omega), h 12 (by omega), h 13 (by omega), h 14 (by omega), h 15 (by omega), h 16 (by omega), h 17 (by omega), h 18 (by omega), h 19 (by omega), h 20 (by omega), h 21 (by omega), h 22 (by omega), h 23 (by omega), h 24 (by omega), h 25 (by omega), h 26 (by omega), h 27 (by omega), h 28 (by omega), h 29 (by omega), h 30 (by omega), h 31 (by omega), h 32 (by omega), h 33 (by omega), h 34 (by omega)]
  rfl
theorem wM_set {g : Gp} {u : Nat → Nat} {σ : St} (h : ∀ i, i < 200 → u i = ga g i) : wM (setA g u) σ = wM g σ := by
  have h : ∀ i, i < 200 → ga (setA g u) i = ga g i := h
  unfold wM
  simp only [h 40 (by omega), h 41 (by omega), h 42 (by omega), h 43 (by omega), h 44 (by omega), h 45 (by omega), h 46 (by omega), h 47 (by omega), h 48 (by omega), h 49 (by omega), h 50 (by omega), h 51 (by omega), h 52 (by omega), h 53 (by omega), h 54 (by omega), h 55 (by omega), h 56 (by omega), h 57 (by omega), h 58 (by omega), h 59 (by omega), h 60 (by omega), h 61 (by omega), h 62 (by omega), h 63 (by omega)]
  rfl
theorem blA_set {g : Gp} {u b b' : Nat → Nat} {σ : St} (h : ∀ i, i < 40 → b i = b' i) : blA (setA g u) b σ = blA g b' σ := by
  unfold blA blS blJ blC
  simp only [h 1 (by omega), h 2 (by omega), h 11 (by omega), h 12 (by omega), h 13 (by omega), h 14 (by omega), h 15 (by omega), h 16 (by omega), h 17 (by omega), h 18 (by omega), h 3 (by omega), h 19 (by omega), h 20 (by omega), h 21 (by omega), h 22 (by omega), h 23 (by omega), h 24 (by omega)]
  rfl
theorem hS_n {σ : St} {x : Int32} (h : hok x = false) : hS σ x = σ := if_neg (by rw [h]; decide)
theorem hX_n {ex : Nat → Bool} {x : Int32} (h : hok x = false) : hX ex x = ex := if_neg (by rw [h]; decide)
theorem hB_n {β : Nat → St} {σ : St} {x : Int32} (h : hok x = false) : hB β σ x = β := if_neg (by rw [h]; decide)
theorem hS_y {σ : St} {x : Int32} (h : hok x = true) : hS σ x = ss σ 0 ((σ.1 0) ||| ((1 : Int32) <<< (x &&& 31))) := if_pos h
theorem hX_y {ex : Nat → Bool} {x : Int32} (h : hok x = true) (j : Nat) : hX ex x j = if j = x.toNatClampNeg then true else ex j := by rw [hX, if_pos h]
theorem hB_y {β : Nat → St} {σ : St} {x : Int32} (h : hok x = true) (j : Nat) : hB β σ x j = if j = x.toNatClampNeg then σ else β j := by rw [hB, if_pos h]
abbrev hQ (g : Gp) (X : va_W) (σ : St) (ex : Nat → Bool) (β : Nat → St) (x : Int32) : Array Value → State → Outcome → State → Prop :=
  va_Qi (fun (r : Int32) (u : Nat → Nat) => r = (if hok x = true then 1 else 0) ∧ ∀ i, i < 200 ∨ 320 ≤ i → u i = ga g i) (fun u => Pw g ((wD (setA g u) (hS σ x) ++ slW (setA g u) (hX ex x) (hB β σ x)) ++ X)) (gA g)
set_option maxRecDepth 100000 in
set_option maxHeartbeats 4000000 in
theorem c_X7_hold {l : Launch} {g : Gp} {X : va_W} (hE : E0 g) {σ : St} {ex : Nat → Bool} {β : Nat → St} {x : Int32} (hf : fitB σ) : Met l yX7_hold [.code yX7_hold cX7_hold 2 (some .boolean)] (rmN 4 17 3085) (va_Pc [.ref (ga g 0), .int x] (Pw g ((wD g σ ++ slW g ex β) ++ X))) (hQ g X σ ex β x) 17 3085 (gA g) := by
  refine rHeadN hE (by decide +kernel) (Nat.le_of_ble_eq_true rfl) (fun p e s m below meth c C hr _ hd ls hl => ?_)
  have hx := C.1
  have hb := C.2.1
  have hK := C.2.2.2.2.2.2.1
  have hl : lv_has ls 2 [(0, .ref (ga g 0)), (1, .int x)] := hl
  generalize ([.ref (ga g 0), .int x] : List Value).toArray = args at C ⊢
  have C : Cx g p s m args meth c cX7_hold 2 RX7 := C
  have hd : Dy g (wD g σ ++ (slW g ex β ++ X)) s s.heap [] := by rw [← List.append_assoc]; exact hd
  have out : hok x = false → W p l e (rmN 4 17 3085) s m args below meth c s.heap [] 0 0 (MQ below (hQ g X σ ex β x) args s 17 3085 (gA g)) (F0 m 13 ls []) := by
    intro h0
    refine lv_iconst (v := 0) hx hb dX7_hold_13 ic_0 ?_
    refine W.widen (k := 17) (n := 3085) (Nat.zero_le _) (Nat.zero_le _) ?_
    refine rZretQ (post := fun (r : Int32) (u : Nat → Nat) => r = (if hok x = true then 1 else 0) ∧ ∀ i, i < 200 ∨ 320 ≤ i → u i = ga g i) (Bw := fun u => (wD (setA g u) (hS σ x) ++ slW (setA g u) (hX ex x) (hB β σ x)) ++ X) C hr (ga g) (by decide) ⟨by rw [h0]; rfl, fun _ _ => rfl⟩ ?_ dX7_hold_14
    show Dy g ((wD g (hS σ x) ++ slW g (hX ex x) (hB β σ x)) ++ X) s s.heap []
    rw [hS_n h0, hX_n h0, hB_n h0, List.append_assoc]
    exact hd
  refine lv_iload_n hx hb dX7_hold_0 rfl (lv_at hl 1 rfl) ?_
  refine lv_if_lt (tgt := 13) hx hb dX7_hold_1 (by decide) (fun c1 => out (by simp [hok, c1])) (fun c1 => ?_)
  refine lv_iload_n hx hb dX7_hold_4 rfl (lv_at hl 1 rfl) ?_
  refine lv_aload_n hx hb dX7_hold_5 rfl (lv_at hl 0 rfl) ?_
  refine gX7_35 C hd dX7_hold_6 ?_
  refine rAlen (v := 3) C hd 34 4 rfl rfl rfl dX7_hold_9 ?_
  refine lv_icmp_lt (tgt := 15) hx hb dX7_hold_10 (by decide) (fun c2 => ?_) (fun c2 => out (by simp [hok, c2]))
  obtain ⟨hk, h3⟩ := k3 c1 c2
  have hy : hok x = true := by simp [hok, c1, c2]
  obtain ⟨pl, hpl⟩ := slP (slB g ex β) hk
  refine lv_aload_n hx hb dX7_hold_15 rfl (lv_at hl 0 rfl) ?_
  refine gX7_35 C hd dX7_hold_16 ?_
  refine lv_iload_n hx hb dX7_hold_19 rfl (lv_at hl 1 rfl) ?_
  refine va_aldq hx hb hK hd.1 34 4 (n := 3) rfl rfl h3 dX7_hold_20 ?_
  have e1 : va_rf ((fun k => if ex k = true then some (ga g (200 + 40 * k + 1)) else none) x.toNatClampNeg) = va_rf (if ex x.toNatClampNeg = true then some (ga g (200 + 40 * x.toNatClampNeg + 1)) else none) := rfl
  rw [e1]
  by_cases hex : ex x.toNatClampNeg = true
  · rw [if_pos hex]
    refine lv_ifnonnull (tgt := 37) hx hb dX7_hold_21 (by decide) ?_
    have hd : Dy g (wD g σ ++ (slC g ex :: (blK g x.toNatClampNeg (β x.toNatClampNeg) ++ (pl ++ X)))) s s.heap [] := by
      have h1 := hpl (slB g ex β) (fun _ _ => rfl)
      rw [show slB g ex β x.toNatClampNeg = blK g x.toNatClampNeg (β x.toNatClampNeg) from if_pos hex] at h1
      exact Dy.perm (by rw [List.append_assoc]; exact hd) (slPX h1)
    refine W.widen (k := 17) (n := 3085) (Nat.zero_le _) (Nat.zero_le _) ?_
    refine w_X7_hold C hf h3 hex (fun H locs ls hd => ?_) _ _ _ hd hl
    refine rZretQ (post := fun (r : Int32) (u : Nat → Nat) => r = (if hok x = true then 1 else 0) ∧ ∀ i, i < 200 ∨ 320 ≤ i → u i = ga g i) (Bw := fun u => (wD (setA g u) (hS σ x) ++ slW (setA g u) (hX ex x) (hB β σ x)) ++ X) C hr (ga g) (by decide) ⟨by rw [hy]; rfl, fun _ _ => rfl⟩ ?_ dX7_hold_63
    show Dy g ((wD g (hS σ x) ++ slW g (hX ex x) (hB β σ x)) ++ X) s H locs
    have hxe : hX ex x = ex := funext fun j => by
      rw [hX_y hy]
      by_cases hj : j = x.toNatClampNeg
      · rw [if_pos hj, hj, hex]
      · rw [if_neg hj]
    have h2 := hpl (slB g ex (hB β σ x)) (fun j hj => by unfold slB; rw [hB_y hy, if_neg hj])
    rw [show slB g ex (hB β σ x) x.toNatClampNeg = blK g x.toNatClampNeg σ from by unfold slB; rw [if_pos hex, hB_y hy, if_pos rfl]] at h2
    rw [hS_y hy, hxe]
    exact Dy.perm hd (slPX h2).symm
  · rw [if_neg hex]
    refine lv_ifnonnullN hx hb dX7_hold_21 ?_
    have hd : Dy g (wD g σ ++ (slC g ex :: (pl ++ X))) s s.heap [] := by
      have h1 := hpl (slB g ex β) (fun _ _ => rfl)
      rw [show slB g ex β x.toNatClampNeg = [] from if_neg hex] at h1
      exact Dy.perm (by rw [List.append_assoc]; exact hd) (slPX (u := []) h1)
    refine lv_aload_n hx hb dX7_hold_24 rfl (lv_at hl 0 rfl) ?_
    refine gX7_35 C hd dX7_hold_25 ?_
    refine lv_iload_n hx hb dX7_hold_28 rfl (lv_at hl 1 rfl) ?_
    refine rNew (Cn := RX5) (T := TX5) (N := 3) (ci := 6) (fs := [.int 0, .null, .null]) (A := wD g σ) C hd rfl inX5 tyX5 tyX5_ok (mT 31 (by decide +kernel)) (mT 32 (by decide +kernel)) (mT 2 (by decide +kernel)) (by decide +kernel) (Nat.le_of_ble_eq_true rfl) (Nat.le_of_ble_eq_true rfl) dX7_hold_29 (fun q H hd => ?_)
    refine lv_dup hx hb dX7_hold_32 rfl ?_
    have hd : Dy g ([(q, .inr (6, [.int 0, .null, .null]))] ++ (wD g σ ++ (slC g ex :: (pl ++ X)))) s _ _ := Dy.part (A := wD g σ ++ [(q, .inr (6, [.int 0, .null, .null]))]) (A' := [(q, .inr (6, [.int 0, .null, .null]))] ++ wD g σ) hd [34, 0, 1, 2, 3, 4, 5, 6, 7, 8, 9, 10, 11, 12, 13, 14, 15, 16, 17, 18, 19, 20, 21, 22, 23, 24, 25, 26, 27, 28, 29, 30, 31, 32, 33] (by decide) rfl
    refine rCallN C hd (c_X5_init hE) iX7_9 rfl hl.1 rfl (Nat.le_of_ble_eq_true rfl) ⟨Nat.le_of_ble_eq_true rfl, Nat.le_of_ble_eq_true rfl⟩ ⟨Nat.le_of_ble_eq_true rfl, Nat.le_of_ble_eq_true rfl⟩ dX7_hold_33 (fun bb H2 locs2 hp hd2 => ?_)
    have hp : bb 1 = q := hp
    have hd3 : Dy g (blA g bb s0 ++ (wD g σ ++ (slC g ex :: (pl ++ X)))) s H2 locs2 := hd2
    clear hd2 hd
    subst hp
    have hd := hd3
    refine va_astq hx hb hK hd.1 hd.2.1 hd.2.2 51 4 0 6 (n := 3) (r := (RX5, TX5, 3)) rfl rfl rfl rfl h3 dX7_hold_36 (fun H locs h1 h2 h4 => ?_)
    have hd : Dy g (blA g bb s0 ++ (wD g σ ++ ((ga g 34, .inl (gc g 4, 3, .inr (.inr (.inr (.inr (va_up (fun k => if ex k = true then some (ga g (200 + 40 * k + 1)) else none) x.toNatClampNeg (some (bb 1)))))))) :: (pl ++ X)))) s H locs := ⟨h1, h2, h4⟩
    have hd : Dy g (wD g σ ++ ((ga g 34, .inl (gc g 4, 3, .inr (.inr (.inr (.inr (va_up (fun k => if ex k = true then some (ga g (200 + 40 * k + 1)) else none) x.toNatClampNeg (some (bb 1)))))))) :: (blA g bb s0 ++ (pl ++ X)))) s H locs := Dy.part (A := blA g bb s0 ++ (wD g σ ++ [(ga g 34, .inl (gc g 4, 3, .inr (.inr (.inr (.inr (va_up (fun k => if ex k = true then some (ga g (200 + 40 * k + 1)) else none) x.toNatClampNeg (some (bb 1))))))))])) (A' := wD g σ ++ ([(ga g 34, .inl (gc g 4, 3, .inr (.inr (.inr (.inr (va_up (fun k => if ex k = true then some (ga g (200 + 40 * k + 1)) else none) x.toNatClampNeg (some (bb 1))))))))] ++ blA g bb s0)) hd [17, 18, 19, 20, 21, 22, 23, 24, 25, 26, 27, 28, 29, 30, 31, 32, 33, 34, 35, 36, 37, 38, 39, 40, 41, 42, 43, 44, 45, 46, 47, 48, 49, 50, 51, 0, 1, 2, 3, 4, 5, 6, 7, 8, 9, 10, 11, 12, 13, 14, 15, 16] (by decide) rfl
    generalize hkk : x.toNatClampNeg = k at hk h3 hex hd hpl
    obtain ⟨u, hu⟩ : ∃ u : Nat → Nat, u = fun i => if 200 + 40 * k ≤ i ∧ i < 240 + 40 * k then bb (i - (200 + 40 * k)) else ga g i := ⟨_, rfl⟩
    have u1 : ∀ i, i < 200 ∨ 320 ≤ i → u i = ga g i := fun i hi => by rw [hu]; exact if_neg (by omega)
    have u2 : ∀ i, i < 40 → u (200 + 40 * k + i) = bb i := fun i hi => by
      rw [hu]
      show (if _ then _ else _) = _
      rw [if_pos (by omega)]
      congr 1
      omega
    have u3 : ∀ j i, j ≠ k → i < 40 → u (200 + 40 * j + i) = ga g (200 + 40 * j + i) := fun j i hj hi => by
      rw [hu]; exact if_neg (by omega)
    have hX' : ∀ j, hX ex x j = if j = k then true else ex j := fun j => by rw [hX_y hy, hkk]
    have hB' : ∀ j, hB β σ x j = if j = k then σ else β j := fun j => by rw [hB_y hy, hkk]
    have e2 : slC (setA g u) (hX ex x) = (ga g 34, .inl (gc g 4, 3, .inr (.inr (.inr (.inr (va_up (fun k => if ex k = true then some (ga g (200 + 40 * k + 1)) else none) k (some (bb 1)))))))) := by
      have e3 : (fun j => if hX ex x j = true then some (u (200 + 40 * j + 1)) else none) = va_up (fun k => if ex k = true then some (ga g (200 + 40 * k + 1)) else none) k (some (bb 1)) := funext fun j => by
        by_cases hj : j = k
        · subst hj
          rw [va_up_self, hX', if_pos rfl, if_pos rfl, u2 1 (by omega)]
        · rw [va_up_ne _ _ hj, hX', if_neg hj, u3 j 1 hj (by omega)]
      show (u 34, Sum.inl (gc g 4, 3, Sum.inr (Sum.inr (Sum.inr (Sum.inr (fun j => if hX ex x j = true then some (u (200 + 40 * j + 1)) else none)))))) = _
      rw [e3, u1 34 (by omega)]
    have e4 : ∀ β', blK (setA g u) k β' = blA g bb β' := fun β' => blA_set (fun i hi => u2 i hi)
    have hd : Dy (setA g u) (wD (setA g u) σ ++ (slC (setA g u) (hX ex x) :: (blK (setA g u) x.toNatClampNeg s0 ++ (pl ++ X)))) s H locs := by
      rw [wD_set (fun i hi => u1 i (Or.inl hi)), e2, hkk, e4]
      exact hd
    have hl : lv_has ls 2 [(0, .ref (ga (setA g u) 0)), (1, .int x)] := by
      rw [show ga (setA g u) 0 = ga g 0 from u1 0 (by omega)]
      exact hl
    refine W.widen (k := 17) (n := 3085) (Nat.le_of_ble_eq_true rfl) (Nat.le_of_ble_eq_true rfl) ?_
    refine w_X7_hold (g := setA g u) (C.set2 (fun i h1 h2 => u1 i (by omega))) hf h3 (by rw [hkk, hX', if_pos rfl]) (fun H locs ls hd => ?_) _ _ _ hd hl
    refine rZretQ (post := fun (r : Int32) (u : Nat → Nat) => r = (if hok x = true then 1 else 0) ∧ ∀ i, i < 200 ∨ 320 ≤ i → u i = ga g i) (Bw := fun u => (wD (setA g u) (hS σ x) ++ slW (setA g u) (hX ex x) (hB β σ x)) ++ X) C hr u (by decide) ⟨by rw [hy]; rfl, u1⟩ ?_ dX7_hold_63
    have h2 := hpl (slB (setA g u) (hX ex x) (hB β σ x)) (fun j hj => by
      unfold slB
      rw [hB', if_neg hj, hX', if_neg hj]
      rw [show blK (setA g u) j (β j) = blK g j (β j) from blA_set (fun i hi => u3 j i hj hi)])
    rw [show slB (setA g u) (hX ex x) (hB β σ x) k = blK (setA g u) k σ from by unfold slB; rw [hX', if_pos rfl, if_pos rfl, hB', if_pos rfl]] at h2
    rw [hkk] at hd
    show Dy g ((wD (setA g u) (hS σ x) ++ slW (setA g u) (hX ex x) (hB β σ x)) ++ X) s H locs
    rw [hS_y hy]
    exact Dy.perm hd (slPX h2).symm
set_option maxRecDepth 100000 in
set_option maxHeartbeats 4000000 in
theorem c_X7_again {l : Launch} {g : Gp} {X : va_W} (hE : E0 g) {σ : St} {ex : Nat → Bool} {β : Nat → St} {x : Int32} (hf : aok σ ex x = true → fitB (β x.toNatClampNeg)) : Ci l g yX7_again cX7_again 2 (some .boolean) 4 [.ref (ga g 0), .int x] ((wD g σ ++ slW g ex β) ++ X) (if aok σ ex x = true then 1 else 0) ((wD g (aS σ ex β x) ++ slW g ex β) ++ X) := by
  refine rHead hE (by decide +kernel) (Nat.le_of_ble_eq_true rfl) (fun p e s m below meth c C hr _ hd ls hl => ?_)
  have hx := C.1
  have hb := C.2.1
  have hK := C.2.2.2.2.2.2.1
  have hl : lv_has ls 2 [(0, .ref (ga g 0)), (1, .int x)] := hl
  generalize ([.ref (ga g 0), .int x] : List Value).toArray = args at C ⊢
  have C : Cx g p s m args meth c cX7_again 2 RX7 := C
  have hd0 := hd
  have hd : Dy g (wD g σ ++ (slW g ex β ++ X)) s s.heap [] := by rw [← List.append_assoc]; exact hd
  have out : aok σ ex x = false → W p l e (rmD 4) s m args below meth c s.heap [] 0 0 (MQ below (va_Qi (fun (y : Int32) (_ : Unit) => y = (if aok σ ex x = true then 1 else 0)) (fun _ => Pw g ((wD g (aS σ ex β x) ++ slW g ex β) ++ X)) (gA g)) args s 0 0 (gA g)) (F0 m 33 ls []) := by
    intro h0
    refine lv_iconst (v := 0) hx hb dX7_again_33 ic_0 ?_
    rw [show aS σ ex β x = σ from if_neg (by rw [h0]; decide), show (if aok σ ex x = true then (1 : Int32) else 0) = 0 from if_neg (by rw [h0]; decide)]
    exact rZret C hr hd0 (by decide) dX7_again_34
  refine lv_iload_n hx hb dX7_again_0 rfl (lv_at hl 1 rfl) ?_
  refine lv_if_lt (tgt := 33) hx hb dX7_again_1 (by decide) (fun c1 => out (by simp [aok, c1])) (fun c1 => ?_)
  refine lv_iload_n hx hb dX7_again_4 rfl (lv_at hl 1 rfl) ?_
  refine lv_aload_n hx hb dX7_again_5 rfl (lv_at hl 0 rfl) ?_
  refine gX7_35 C hd dX7_again_6 ?_
  refine rAlen (v := 3) C hd 34 4 rfl rfl rfl dX7_again_9 ?_
  refine lv_icmp_ge (tgt := 33) hx hb dX7_again_10 (by decide) (fun c2 => out (decide_eq_false (fun q => absurd q.2.1 (Int32.not_lt.mpr c2)))) (fun c2 => ?_)
  have c2 : x < 3 := Int32.not_le.mp c2
  obtain ⟨hk, h3⟩ := k3 c1 c2
  refine lv_aload_n hx hb dX7_again_13 rfl (lv_at hl 0 rfl) ?_
  refine gX7_39 C hd dX7_again_14 ?_
  refine lv_iload_n hx hb dX7_again_17 rfl (lv_at hl 1 rfl) ?_
  refine lv_ishr hx hb dX7_again_18 ?_
  refine lv_iconst (v := 1) hx hb dX7_again_19 ic_1 ?_
  refine lv_iand hx hb dX7_again_20 ?_
  refine lv_if_eq (tgt := 33) hx hb dX7_again_21 (by decide) (fun c4 => out (decide_eq_false (fun q => q.2.2.1 c4))) (fun c4 => ?_)
  refine lv_aload_n hx hb dX7_again_24 rfl (lv_at hl 0 rfl) ?_
  refine gX7_35 C hd dX7_again_25 ?_
  refine lv_iload_n hx hb dX7_again_28 rfl (lv_at hl 1 rfl) ?_
  refine va_aldq hx hb hK hd.1 34 4 (n := 3) rfl rfl h3 dX7_again_29 ?_
  have e1 : va_rf ((fun k => if ex k = true then some (ga g (200 + 40 * k + 1)) else none) x.toNatClampNeg) = va_rf (if ex x.toNatClampNeg = true then some (ga g (200 + 40 * x.toNatClampNeg + 1)) else none) := rfl
  rw [e1]
  by_cases hex : ex x.toNatClampNeg = true
  · rw [if_pos hex]
    have hy : aok σ ex x = true := decide_eq_true ⟨c1, c2, c4, hex⟩
    refine lv_ifnonnull (tgt := 35) hx hb dX7_again_30 (by decide) ?_
    obtain ⟨pl, hpl⟩ := slP (slB g ex β) hk
    have h1 := hpl (slB g ex β) (fun _ _ => rfl)
    rw [show slB g ex β x.toNatClampNeg = blK g x.toNatClampNeg (β x.toNatClampNeg) from if_pos hex] at h1
    have hd : Dy g (wD g σ ++ (slC g ex :: (blK g x.toNatClampNeg (β x.toNatClampNeg) ++ (pl ++ X)))) s s.heap [] := Dy.perm (by rw [List.append_assoc]; exact hd) (slPX h1)
    refine lv_aload_n hx hb dX7_again_35 rfl (lv_at hl 0 rfl) ?_
    refine gX7_10 C hd dX7_again_36 ?_
    refine lv_aload_n hx hb dX7_again_39 rfl (lv_at hl 0 rfl) ?_
    refine gX7_35 C hd dX7_again_40 ?_
    refine lv_iload_n hx hb dX7_again_43 rfl (lv_at hl 1 rfl) ?_
    refine va_aldq hx hb hK hd.1 34 4 (n := 3) rfl rfl h3 dX7_again_44 ?_
    rw [e1, if_pos hex]
    have hd : Dy g ((blA g (ga g) σ ++ blA g (fun i => ga g (200 + 40 * x.toNatClampNeg + i)) (β x.toNatClampNeg)) ++ ((wR g σ ++ [slC g ex]) ++ (pl ++ X))) s s.heap [] := Dy.part (A := wD g σ ++ ([slC g ex] ++ blK g x.toNatClampNeg (β x.toNatClampNeg))) (A' := (blA g (ga g) σ ++ blA g (fun i => ga g (200 + 40 * x.toNatClampNeg + i)) (β x.toNatClampNeg)) ++ (wR g σ ++ [slC g ex])) hd [1, 2, 11, 12, 13, 14, 15, 16, 17, 18, 3, 19, 20, 21, 22, 23, 24, 35, 36, 37, 38, 39, 40, 41, 42, 43, 44, 45, 46, 47, 48, 49, 50, 51, 0, 4, 5, 6, 7, 8, 9, 10, 25, 26, 27, 28, 29, 30, 31, 32, 33, 34] (by decide) rfl
    refine rCallV C hd (c_X5_become (b := ga g) (b' := fun i => ga g (200 + 40 * x.toNatClampNeg + i)) hE (hf hy)) kX7_422 0 rfl rfl rfl rfl hl.1 rfl (Nat.le_of_ble_eq_true rfl) ⟨Nat.le_of_ble_eq_true rfl, Nat.le_of_ble_eq_true rfl⟩ ⟨Nat.le_refl _, Nat.le_refl _⟩ dX7_again_45 (fun H locs hd => ?_)
    have hd : Dy g (wD g (cpA σ (β x.toNatClampNeg)) ++ (slC g ex :: (blK g x.toNatClampNeg (β x.toNatClampNeg) ++ (pl ++ X)))) s H locs := Dy.part (A := (blA g (ga g) (cpA σ (β x.toNatClampNeg)) ++ blA g (fun i => ga g (200 + 40 * x.toNatClampNeg + i)) (β x.toNatClampNeg)) ++ (wR g σ ++ [slC g ex])) (A' := wD g (cpA σ (β x.toNatClampNeg)) ++ ([slC g ex] ++ blK g x.toNatClampNeg (β x.toNatClampNeg))) hd [34, 0, 1, 10, 35, 36, 37, 38, 39, 40, 41, 2, 3, 4, 5, 6, 7, 8, 9, 11, 12, 13, 14, 15, 16, 42, 43, 44, 45, 46, 47, 48, 49, 50, 51, 17, 18, 19, 20, 21, 22, 23, 24, 25, 26, 27, 28, 29, 30, 31, 32, 33] (by decide) rfl
    refine lv_iconst (v := 1) hx hb dX7_again_48 ic_1 ?_
    rw [show aS σ ex β x = cpA σ (β x.toNatClampNeg) from if_pos hy, show (if aok σ ex x = true then (1 : Int32) else 0) = 1 from if_pos hy]
    exact rZret C hr (Dy.perm hd (slPX h1).symm) (by decide) dX7_again_49
  · rw [if_neg hex]
    refine lv_ifnonnullN hx hb dX7_again_30 ?_
    exact out (decide_eq_false (fun q => hex q.2.2.2))
