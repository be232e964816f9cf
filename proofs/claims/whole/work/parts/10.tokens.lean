section S
variable {p : Program} {l : Launch} {e : Env} {s : State} {m : MethodId} {args : Array Value} {below : List Frame} {meth : Method} {c : Code} {g : Gp} {X : va_W}
noncomputable def f_X6_kindAt (F : Nat) (σ : St) (x1 : Int32) : Option Int32 :=
  if x1 < 0 then (some 30) else (if (σ.1 19) ≤ x1 then (some 30) else (if inb x1 402 = true then some (σ.2.1 26 x1.toNatClampNeg) else none))
set_option maxRecDepth 100000 in
set_option maxHeartbeats 4000000 in
theorem c_X6_kindAt {l : Launch} {g : Gp} {X : va_W} (hE : E0 g) {F : Nat} {r' : Int32} {σ : St} {x1 : Int32} (h : f_X6_kindAt F σ x1 = some r') : Ci l g yX6_kindAt cX6_kindAt 2 (some .int) 0 [.ref (ga g 5), .int x1] (wD g σ ++ X) r' (wD g σ ++ X) := by
  refine rHead hE (by decide +kernel) (Nat.le_of_ble_eq_true rfl) (fun p e s m below meth c C hr _ hd ls hl => ?_)
  have hx := C.1
  have hb := C.2.1
  have hl : lv_has ls 2 [(0, .ref (ga g 5)), (1, .int x1)] := hl
  generalize ([.ref (ga g 5), .int x1] : List Value).toArray = args at C ⊢
  have C : Cx g p s m args meth c cX6_kindAt 2 RX6 := C
  rw [f_X6_kindAt] at h
  refine lv_iload_n hx hb dX6_kindAt_0 rfl (lv_at hl 1 rfl) ?_
  refine lv_if_lt (tgt := 21) hx hb dX6_kindAt_1 (by decide) (fun c1 => ?_) (fun c1 => ?_)
  · replace h := iteT c1 h
    refine lv_bipush (v := 30) hx hb dX6_kindAt_21 bi_30 ?_
    exact rIretP C hr hd h dX6_kindAt_23
  · replace h := iteF c1 h
    refine lv_iload_n hx hb dX6_kindAt_4 rfl (lv_at hl 1 rfl) ?_
    refine lv_aload_n hx hb dX6_kindAt_5 rfl (lv_at hl 0 rfl) ?_
    refine gX6_9 C hd dX6_kindAt_6 ?_
    refine lv_icmp_ge (tgt := 21) hx hb dX6_kindAt_9 (by decide) (fun c2 => ?_) (fun c2 => ?_)
    · replace h := iteT c2 h
      refine lv_bipush (v := 30) hx hb dX6_kindAt_21 bi_30 ?_
      exact rIretP C hr hd h dX6_kindAt_23
    · replace h := iteF c2 h
      refine lv_aload_n hx hb dX6_kindAt_12 rfl (lv_at hl 0 rfl) ?_
      refine gX6_15 C hd dX6_kindAt_13 ?_
      refine lv_iload_n hx hb dX6_kindAt_16 rfl (lv_at hl 1 rfl) ?_
      obtain ⟨n3, h⟩ := chk h
      refine ld_wD_26 C hd (inb_i n3) dX6_kindAt_17 ?_
      refine lv_goto (tgt := 23) hx hb dX6_kindAt_18 (by decide) ?_
      exact rIretP C hr hd h dX6_kindAt_23
noncomputable def f_X6_numberAt (F : Nat) (σ : St) (x1 : Int32) : Option Int32 :=
  if x1 < 0 then (some 0) else (if (σ.1 19) ≤ x1 then (some 0) else (if inb x1 402 = true then some (σ.2.1 27 x1.toNatClampNeg) else none))
set_option maxRecDepth 100000 in
set_option maxHeartbeats 4000000 in
theorem c_X6_numberAt {l : Launch} {g : Gp} {X : va_W} (hE : E0 g) {F : Nat} {r' : Int32} {σ : St} {x1 : Int32} (h : f_X6_numberAt F σ x1 = some r') : Ci l g yX6_numberAt cX6_numberAt 2 (some .int) 0 [.ref (ga g 5), .int x1] (wD g σ ++ X) r' (wD g σ ++ X) := by
  refine rHead hE (by decide +kernel) (Nat.le_of_ble_eq_true rfl) (fun p e s m below meth c C hr _ hd ls hl => ?_)
  have hx := C.1
  have hb := C.2.1
  have hl : lv_has ls 2 [(0, .ref (ga g 5)), (1, .int x1)] := hl
  generalize ([.ref (ga g 5), .int x1] : List Value).toArray = args at C ⊢
  have C : Cx g p s m args meth c cX6_numberAt 2 RX6 := C
  rw [f_X6_numberAt] at h
  refine lv_iload_n hx hb dX6_numberAt_0 rfl (lv_at hl 1 rfl) ?_
  refine lv_if_lt (tgt := 21) hx hb dX6_numberAt_1 (by decide) (fun c1 => ?_) (fun c1 => ?_)
  · replace h := iteT c1 h
    refine lv_iconst (v := 0) hx hb dX6_numberAt_21 ic_0 ?_
    exact rIretP C hr hd h dX6_numberAt_22
  · replace h := iteF c1 h
    refine lv_iload_n hx hb dX6_numberAt_4 rfl (lv_at hl 1 rfl) ?_
    refine lv_aload_n hx hb dX6_numberAt_5 rfl (lv_at hl 0 rfl) ?_
    refine gX6_9 C hd dX6_numberAt_6 ?_
    refine lv_icmp_ge (tgt := 21) hx hb dX6_numberAt_9 (by decide) (fun c2 => ?_) (fun c2 => ?_)
    · replace h := iteT c2 h
      refine lv_iconst (v := 0) hx hb dX6_numberAt_21 ic_0 ?_
      exact rIretP C hr hd h dX6_numberAt_22
    · replace h := iteF c2 h
      refine lv_aload_n hx hb dX6_numberAt_12 rfl (lv_at hl 0 rfl) ?_
      refine gX6_19 C hd dX6_numberAt_13 ?_
      refine lv_iload_n hx hb dX6_numberAt_16 rfl (lv_at hl 1 rfl) ?_
      obtain ⟨n3, h⟩ := chk h
      refine ld_wD_27 C hd (inb_i n3) dX6_numberAt_17 ?_
      refine lv_goto (tgt := 22) hx hb dX6_numberAt_18 (by decide) ?_
      exact rIretP C hr hd h dX6_numberAt_22
noncomputable def f_X6_placeAt (F : Nat) (σ : St) (x1 : Int32) : Option Int32 :=
  if x1 < 0 then (some (-1 : Int32)) else (if (σ.1 19) ≤ x1 then (some (-1 : Int32)) else (if inb x1 402 = true then some (σ.2.1 28 x1.toNatClampNeg) else none))
set_option maxRecDepth 100000 in
set_option maxHeartbeats 4000000 in
theorem c_X6_placeAt {l : Launch} {g : Gp} {X : va_W} (hE : E0 g) {F : Nat} {r' : Int32} {σ : St} {x1 : Int32} (h : f_X6_placeAt F σ x1 = some r') : Ci l g yX6_placeAt cX6_placeAt 2 (some .int) 0 [.ref (ga g 5), .int x1] (wD g σ ++ X) r' (wD g σ ++ X) := by
  refine rHead hE (by decide +kernel) (Nat.le_of_ble_eq_true rfl) (fun p e s m below meth c C hr _ hd ls hl => ?_)
  have hx := C.1
  have hb := C.2.1
  have hl : lv_has ls 2 [(0, .ref (ga g 5)), (1, .int x1)] := hl
  generalize ([.ref (ga g 5), .int x1] : List Value).toArray = args at C ⊢
  have C : Cx g p s m args meth c cX6_placeAt 2 RX6 := C
  rw [f_X6_placeAt] at h
  refine lv_iload_n hx hb dX6_placeAt_0 rfl (lv_at hl 1 rfl) ?_
  refine lv_if_lt (tgt := 21) hx hb dX6_placeAt_1 (by decide) (fun c1 => ?_) (fun c1 => ?_)
  · replace h := iteT c1 h
    refine lv_iconst (v := (-1 : Int32)) hx hb dX6_placeAt_21 ic_m1 ?_
    exact rIretP C hr hd h dX6_placeAt_22
  · replace h := iteF c1 h
    refine lv_iload_n hx hb dX6_placeAt_4 rfl (lv_at hl 1 rfl) ?_
    refine lv_aload_n hx hb dX6_placeAt_5 rfl (lv_at hl 0 rfl) ?_
    refine gX6_9 C hd dX6_placeAt_6 ?_
    refine lv_icmp_ge (tgt := 21) hx hb dX6_placeAt_9 (by decide) (fun c2 => ?_) (fun c2 => ?_)
    · replace h := iteT c2 h
      refine lv_iconst (v := (-1 : Int32)) hx hb dX6_placeAt_21 ic_m1 ?_
      exact rIretP C hr hd h dX6_placeAt_22
    · replace h := iteF c2 h
      refine lv_aload_n hx hb dX6_placeAt_12 rfl (lv_at hl 0 rfl) ?_
      refine gX6_22 C hd dX6_placeAt_13 ?_
      refine lv_iload_n hx hb dX6_placeAt_16 rfl (lv_at hl 1 rfl) ?_
      obtain ⟨n3, h⟩ := chk h
      refine ld_wD_28 C hd (inb_i n3) dX6_placeAt_17 ?_
      refine lv_goto (tgt := 22) hx hb dX6_placeAt_18 (by decide) ?_
      exact rIretP C hr hd h dX6_placeAt_22
noncomputable def f_X6_isLetter (F : Nat) (σ : St) (x0 : Int32) : Option Int32 :=
  if x0 < 97 then (some 0) else (if 122 < x0 then (some 0) else (some 1))
set_option maxRecDepth 100000 in
set_option maxHeartbeats 4000000 in
theorem c_X6_isLetter {l : Launch} {g : Gp} {X : va_W} (hE : E0 g) {F : Nat} {r' : Int32} {σ : St} {x0 : Int32} (h : f_X6_isLetter F σ x0 = some r') : Ci l g yX6_isLetter cX6_isLetter 1 (some .boolean) 0 [.int x0] (wD g σ ++ X) r' (wD g σ ++ X) := by
  refine rHead hE (by decide +kernel) (Nat.le_of_ble_eq_true rfl) (fun p e s m below meth c C hr _ hd ls hl => ?_)
  have hx := C.1
  have hb := C.2.1
  have hl : lv_has ls 1 [(0, .int x0)] := hl
  generalize ([.int x0] : List Value).toArray = args at C ⊢
  have C : Cx g p s m args meth c cX6_isLetter 1 RX6 := C
  rw [f_X6_isLetter] at h
  refine lv_iload_n hx hb dX6_isLetter_0 rfl (lv_at hl 0 rfl) ?_
  refine lv_bipush (v := 97) hx hb dX6_isLetter_1 bi_97 ?_
  refine lv_icmp_lt (tgt := 16) hx hb dX6_isLetter_3 (by decide) (fun c1 => ?_) (fun c1 => ?_)
  · replace h := iteT c1 h
    refine lv_iconst (v := 0) hx hb dX6_isLetter_16 ic_0 ?_
    exact rZretP C hr hd h (by decide) dX6_isLetter_17
  · replace h := iteF c1 h
    refine lv_iload_n hx hb dX6_isLetter_6 rfl (lv_at hl 0 rfl) ?_
    refine lv_bipush (v := 122) hx hb dX6_isLetter_7 bi_122 ?_
    refine lv_icmp_gt (tgt := 16) hx hb dX6_isLetter_9 (by decide) (fun c2 => ?_) (fun c2 => ?_)
    · replace h := iteT c2 h
      refine lv_iconst (v := 0) hx hb dX6_isLetter_16 ic_0 ?_
      exact rZretP C hr hd h (by decide) dX6_isLetter_17
    · replace h := iteF c2 h
      refine lv_iconst (v := 1) hx hb dX6_isLetter_12 ic_1 ?_
      refine lv_goto (tgt := 17) hx hb dX6_isLetter_13 (by decide) ?_
      exact rZretP C hr hd h (by decide) dX6_isLetter_17
noncomputable def f_X6_isDigit (F : Nat) (σ : St) (x0 : Int32) : Option Int32 :=
  if x0 < 48 then (some 0) else (if 57 < x0 then (some 0) else (some 1))
set_option maxRecDepth 100000 in
set_option maxHeartbeats 4000000 in
theorem c_X6_isDigit {l : Launch} {g : Gp} {X : va_W} (hE : E0 g) {F : Nat} {r' : Int32} {σ : St} {x0 : Int32} (h : f_X6_isDigit F σ x0 = some r') : Ci l g yX6_isDigit cX6_isDigit 1 (some .boolean) 0 [.int x0] (wD g σ ++ X) r' (wD g σ ++ X) := by
  refine rHead hE (by decide +kernel) (Nat.le_of_ble_eq_true rfl) (fun p e s m below meth c C hr _ hd ls hl => ?_)
  have hx := C.1
  have hb := C.2.1
  have hl : lv_has ls 1 [(0, .int x0)] := hl
  generalize ([.int x0] : List Value).toArray = args at C ⊢
  have C : Cx g p s m args meth c cX6_isDigit 1 RX6 := C
  rw [f_X6_isDigit] at h
  refine lv_iload_n hx hb dX6_isDigit_0 rfl (lv_at hl 0 rfl) ?_
  refine lv_bipush (v := 48) hx hb dX6_isDigit_1 bi_48 ?_
  refine lv_icmp_lt (tgt := 16) hx hb dX6_isDigit_3 (by decide) (fun c1 => ?_) (fun c1 => ?_)
  · replace h := iteT c1 h
    refine lv_iconst (v := 0) hx hb dX6_isDigit_16 ic_0 ?_
    exact rZretP C hr hd h (by decide) dX6_isDigit_17
  · replace h := iteF c1 h
    refine lv_iload_n hx hb dX6_isDigit_6 rfl (lv_at hl 0 rfl) ?_
    refine lv_bipush (v := 57) hx hb dX6_isDigit_7 bi_57 ?_
    refine lv_icmp_gt (tgt := 16) hx hb dX6_isDigit_9 (by decide) (fun c2 => ?_) (fun c2 => ?_)
    · replace h := iteT c2 h
      refine lv_iconst (v := 0) hx hb dX6_isDigit_16 ic_0 ?_
      exact rZretP C hr hd h (by decide) dX6_isDigit_17
    · replace h := iteF c2 h
      refine lv_iconst (v := 1) hx hb dX6_isDigit_12 ic_1 ?_
      refine lv_goto (tgt := 17) hx hb dX6_isDigit_13 (by decide) ?_
      exact rZretP C hr hd h (by decide) dX6_isDigit_17
noncomputable def f_X6_endOfRun_33 (F : Nat) : Nat → St → Int32 → Int32 → Int32 → Option Int32
  | 0, _, _, _, _ => none
  | n + 1, σ, x1, x2, x3 => if x2 ≤ x3 then (if x3 ≤ x1 then (some (x1 + 1)) else (some x3)) else (if inb x3 2000 = true then cal (f_X6_isDigit F σ ((σ.2.1 9 x3.toNatClampNeg) &&& 255)) (fun r4 => if r4 = 0 then (if x3 ≤ x1 then (some (x1 + 1)) else (some x3)) else (bnd (x3 + 1) (fun v7 => f_X6_endOfRun_33 F n σ x1 x2 v7))) else none)
set_option maxRecDepth 100000 in
set_option maxHeartbeats 4000000 in
theorem w_X6_endOfRun_33 {F : Nat} {r' : Int32}  (C : Cx g p s m args meth c cX6_endOfRun 4 RX6) (hr : meth.sig.returnType = some .int) :
    (∀ (n : Nat) (σ : St) (x1 : Int32) (x2 : Int32) (x3 : Int32), f_X6_endOfRun_33 F n σ x1 x2 x3 = some r' → ∀ (H : Heap) (locs : List Loc) (ls : Array Slot), Dy g (wD g σ ++ X) s H locs → lv_has ls 4 [(0, .ref (ga g 9)), (1, .int x1), (2, .int x2), (3, .int x3)] → W p l e (rmD 1) s m args below meth c H locs 0 0 (QI g below args s (wD g σ ++ X) r') (F0 m 33 ls [])) := by
  have hx := C.1
  have hb := C.2.1
  have hE := C.2.2.2.2.2.2.2.2
  intro n
  induction n with
  | zero =>
    intro σ x1 x2 x3 h
    cases h
  | succ n ih =>
    intro σ x1 x2 x3 h H locs ls hd hl
    rw [f_X6_endOfRun_33] at h
    refine lv_iload_n hx hb dX6_endOfRun_33 rfl (lv_at hl 3 rfl) ?_
    refine lv_iload_n hx hb dX6_endOfRun_34 rfl (lv_at hl 2 rfl) ?_
    refine lv_icmp_ge (tgt := 57) hx hb dX6_endOfRun_35 (by decide) (fun c1 => ?_) (fun c1 => ?_)
    · replace h := iteT c1 h
      refine lv_iload_n hx hb dX6_endOfRun_57 rfl (lv_at hl 3 rfl) ?_
      refine lv_iload_n hx hb dX6_endOfRun_58 rfl (lv_at hl 1 rfl) ?_
      refine lv_icmp_le (tgt := 66) hx hb dX6_endOfRun_59 (by decide) (fun c2 => ?_) (fun c2 => ?_)
      · replace h := iteT c2 h
        refine lv_iload_n hx hb dX6_endOfRun_66 rfl (lv_at hl 1 rfl) ?_
        refine lv_iconst (v := 1) hx hb dX6_endOfRun_67 ic_1 ?_
        refine lv_iadd hx hb dX6_endOfRun_68 ?_
        exact rIretP C hr hd h dX6_endOfRun_69
      · replace h := iteF c2 h
        refine lv_iload_n hx hb dX6_endOfRun_62 rfl (lv_at hl 3 rfl) ?_
        refine lv_goto (tgt := 69) hx hb dX6_endOfRun_63 (by decide) ?_
        exact rIretP C hr hd h dX6_endOfRun_69
    · replace h := iteF c1 h
      refine lv_aload_n hx hb dX6_endOfRun_38 rfl (lv_at hl 0 rfl) ?_
      refine lv_iload_n hx hb dX6_endOfRun_39 rfl (lv_at hl 3 rfl) ?_
      obtain ⟨n3, h⟩ := chk h
      refine ld_wD_9 C hd (inb_i n3) dX6_endOfRun_40 ?_
      refine lv_sipush (v := 255) hx hb dX6_endOfRun_41 si_255 ?_
      refine lv_iand hx hb dX6_endOfRun_44 ?_
      obtain ⟨r4, er4, h⟩ := cal_e h
      refine rCallSI C hd (c_X6_isDigit hE er4) kX6_52 rfl hl.1 rfl (Nat.le_of_ble_eq_true rfl) ⟨(Nat.le_of_ble_eq_true rfl), (Nat.le_of_ble_eq_true rfl)⟩ ⟨Nat.le_refl _, Nat.le_refl _⟩ dX6_endOfRun_45 (fun H locs hd => ?_)
      refine lv_if_eq (tgt := 57) hx hb dX6_endOfRun_48 (by decide) (fun c5 => ?_) (fun c5 => ?_)
      · replace h := iteT c5 h
        refine lv_iload_n hx hb dX6_endOfRun_57 rfl (lv_at hl 3 rfl) ?_
        refine lv_iload_n hx hb dX6_endOfRun_58 rfl (lv_at hl 1 rfl) ?_
        refine lv_icmp_le (tgt := 66) hx hb dX6_endOfRun_59 (by decide) (fun c6 => ?_) (fun c6 => ?_)
        · replace h := iteT c6 h
          refine lv_iload_n hx hb dX6_endOfRun_66 rfl (lv_at hl 1 rfl) ?_
          refine lv_iconst (v := 1) hx hb dX6_endOfRun_67 ic_1 ?_
          refine lv_iadd hx hb dX6_endOfRun_68 ?_
          exact rIretP C hr hd h dX6_endOfRun_69
        · replace h := iteF c6 h
          refine lv_iload_n hx hb dX6_endOfRun_62 rfl (lv_at hl 3 rfl) ?_
          refine lv_goto (tgt := 69) hx hb dX6_endOfRun_63 (by decide) ?_
          exact rIretP C hr hd h dX6_endOfRun_69
      · replace h := iteF c5 h
        obtain ⟨v7, ev7, h⟩ := bnd_e h
        refine lv_iinc (v := v7) (lv' := [(3, .int v7), (0, .ref (ga g 9)), (1, .int x1), (2, .int x2)]) hx hb dX6_endOfRun_51 hl (k := 3) rfl ((ii_1 _).trans ev7.symm) (Nat.le_of_ble_eq_true rfl) rfl (fun ls hl => ?_)
        refine lv_goto (tgt := 33) hx hb dX6_endOfRun_54 (by decide) ?_
        exact ih σ x1 x2 v7 h _ _ _ hd (lv_sub hl [1, 2, 3, 0] rfl)
noncomputable def f_X6_endOfRun_26 (F : Nat) (σ : St) (x1 : Int32) (x2 : Int32) (x3 : Int32) : Option Int32 :=
  if x3 ≤ x1 then (f_X6_endOfRun_33 F F σ x1 x2 x3) else (some x3)
set_option maxRecDepth 100000 in
set_option maxHeartbeats 4000000 in
theorem w_X6_endOfRun_26 {F : Nat} {r' : Int32}  (C : Cx g p s m args meth c cX6_endOfRun 4 RX6) (hr : meth.sig.returnType = some .int) :
    (∀ (σ : St) (x1 : Int32) (x2 : Int32) (x3 : Int32), f_X6_endOfRun_26 F σ x1 x2 x3 = some r' → ∀ (H : Heap) (locs : List Loc) (ls : Array Slot), Dy g (wD g σ ++ X) s H locs → lv_has ls 4 [(0, .ref (ga g 9)), (1, .int x1), (2, .int x2), (3, .int x3)] → W p l e (rmD 1) s m args below meth c H locs 0 0 (QI g below args s (wD g σ ++ X) r') (F0 m 26 ls [])) := by
  have hx := C.1
  have hb := C.2.1
  have hE := C.2.2.2.2.2.2.2.2
  intro σ x1 x2 x3 h H locs ls hd hl
  rw [f_X6_endOfRun_26] at h
  refine lv_iload_n hx hb dX6_endOfRun_26 rfl (lv_at hl 3 rfl) ?_
  refine lv_iload_n hx hb dX6_endOfRun_27 rfl (lv_at hl 1 rfl) ?_
  refine lv_icmp_le (tgt := 33) hx hb dX6_endOfRun_28 (by decide) (fun c1 => ?_) (fun c1 => ?_)
  · replace h := iteT c1 h
    exact w_X6_endOfRun_33 C hr _ σ x1 x2 x3 h _ _ _ hd (lv_sub hl [0, 1, 2, 3] rfl)
  · replace h := iteF c1 h
    refine lv_iload_n hx hb dX6_endOfRun_31 rfl (lv_at hl 3 rfl) ?_
    exact rIretP C hr hd h dX6_endOfRun_32
noncomputable def f_X6_endOfRun_2 (F : Nat) : Nat → St → Int32 → Int32 → Int32 → Option Int32
  | 0, _, _, _, _ => none
  | n + 1, σ, x1, x2, x3 => if x2 ≤ x3 then (f_X6_endOfRun_26 F σ x1 x2 x3) else (if inb x3 2000 = true then cal (f_X6_isLetter F σ ((σ.2.1 9 x3.toNatClampNeg) &&& 255)) (fun r3 => if r3 = 0 then (f_X6_endOfRun_26 F σ x1 x2 x3) else (bnd (x3 + 1) (fun v5 => f_X6_endOfRun_2 F n σ x1 x2 v5))) else none)
set_option maxRecDepth 100000 in
set_option maxHeartbeats 4000000 in
theorem w_X6_endOfRun_2 {F : Nat} {r' : Int32}  (C : Cx g p s m args meth c cX6_endOfRun 4 RX6) (hr : meth.sig.returnType = some .int) :
    (∀ (n : Nat) (σ : St) (x1 : Int32) (x2 : Int32) (x3 : Int32), f_X6_endOfRun_2 F n σ x1 x2 x3 = some r' → ∀ (H : Heap) (locs : List Loc) (ls : Array Slot), Dy g (wD g σ ++ X) s H locs → lv_has ls 4 [(0, .ref (ga g 9)), (1, .int x1), (2, .int x2), (3, .int x3)] → W p l e (rmD 1) s m args below meth c H locs 0 0 (QI g below args s (wD g σ ++ X) r') (F0 m 2 ls [])) := by
  have hx := C.1
  have hb := C.2.1
  have hE := C.2.2.2.2.2.2.2.2
  intro n
  induction n with
  | zero =>
    intro σ x1 x2 x3 h
    cases h
  | succ n ih =>
    intro σ x1 x2 x3 h H locs ls hd hl
    rw [f_X6_endOfRun_2] at h
    refine lv_iload_n hx hb dX6_endOfRun_2 rfl (lv_at hl 3 rfl) ?_
    refine lv_iload_n hx hb dX6_endOfRun_3 rfl (lv_at hl 2 rfl) ?_
    refine lv_icmp_ge (tgt := 26) hx hb dX6_endOfRun_4 (by decide) (fun c1 => ?_) (fun c1 => ?_)
    · replace h := iteT c1 h
      exact w_X6_endOfRun_26 C hr σ x1 x2 x3 h _ _ _ hd (lv_sub hl [0, 1, 2, 3] rfl)
    · replace h := iteF c1 h
      refine lv_aload_n hx hb dX6_endOfRun_7 rfl (lv_at hl 0 rfl) ?_
      refine lv_iload_n hx hb dX6_endOfRun_8 rfl (lv_at hl 3 rfl) ?_
      obtain ⟨n2, h⟩ := chk h
      refine ld_wD_9 C hd (inb_i n2) dX6_endOfRun_9 ?_
      refine lv_sipush (v := 255) hx hb dX6_endOfRun_10 si_255 ?_
      refine lv_iand hx hb dX6_endOfRun_13 ?_
      obtain ⟨r3, er3, h⟩ := cal_e h
      refine rCallSI C hd (c_X6_isLetter hE er3) kX6_49 rfl hl.1 rfl (Nat.le_of_ble_eq_true rfl) ⟨(Nat.le_of_ble_eq_true rfl), (Nat.le_of_ble_eq_true rfl)⟩ ⟨Nat.le_refl _, Nat.le_refl _⟩ dX6_endOfRun_14 (fun H locs hd => ?_)
      refine lv_if_eq (tgt := 26) hx hb dX6_endOfRun_17 (by decide) (fun c4 => ?_) (fun c4 => ?_)
      · replace h := iteT c4 h
        exact w_X6_endOfRun_26 C hr σ x1 x2 x3 h _ _ _ hd (lv_sub hl [0, 1, 2, 3] rfl)
      · replace h := iteF c4 h
        obtain ⟨v5, ev5, h⟩ := bnd_e h
        refine lv_iinc (v := v5) (lv' := [(3, .int v5), (0, .ref (ga g 9)), (1, .int x1), (2, .int x2)]) hx hb dX6_endOfRun_20 hl (k := 3) rfl ((ii_1 _).trans ev5.symm) (Nat.le_of_ble_eq_true rfl) rfl (fun ls hl => ?_)
        refine lv_goto (tgt := 2) hx hb dX6_endOfRun_23 (by decide) ?_
        exact ih σ x1 x2 v5 h _ _ _ hd (lv_sub hl [1, 2, 3, 0] rfl)
noncomputable def f_X6_endOfRun (F : Nat) (σ : St) (x1 : Int32) (x2 : Int32) : Option Int32 :=
  f_X6_endOfRun_2 F F σ x1 x2 x1
set_option maxRecDepth 100000 in
set_option maxHeartbeats 4000000 in
theorem c_X6_endOfRun {l : Launch} {g : Gp} {X : va_W} (hE : E0 g) {F : Nat} {r' : Int32} {σ : St} {x1 : Int32} {x2 : Int32} (h : f_X6_endOfRun F σ x1 x2 = some r') : Ci l g yX6_endOfRun cX6_endOfRun 4 (some .int) 1 [.ref (ga g 9), .int x1, .int x2] (wD g σ ++ X) r' (wD g σ ++ X) := by
  refine rHead hE (by decide +kernel) (Nat.le_of_ble_eq_true rfl) (fun p e s m below meth c C hr _ hd ls hl => ?_)
  have hx := C.1
  have hb := C.2.1
  have hl : lv_has ls 4 [(0, .ref (ga g 9)), (1, .int x1), (2, .int x2)] := hl
  generalize ([.ref (ga g 9), .int x1, .int x2] : List Value).toArray = args at C ⊢
  have C : Cx g p s m args meth c cX6_endOfRun 4 RX6 := C
  rw [f_X6_endOfRun] at h
  refine lv_iload_n hx hb dX6_endOfRun_0 rfl (lv_at hl 1 rfl) ?_
  refine lv_istore_n (lv' := [(3, .int x1), (0, .ref (ga g 9)), (1, .int x1), (2, .int x2)]) hx hb dX6_endOfRun_1 rfl hl (Nat.le_of_ble_eq_true rfl) rfl (fun ls hl => ?_)
  exact w_X6_endOfRun_2 C hr _ σ x1 x2 x1 h _ _ _ hd (lv_sub hl [1, 2, 3, 0] rfl)
noncomputable def f_X6_isBlank (F : Nat) (σ : St) (x0 : Int32) : Option Int32 :=
  if x0 = 9 then (some 1) else (if x0 = 10 then (some 1) else (if x0 = 13 then (some 1) else (if x0 = 32 then (some 1) else (some 0))))
set_option maxRecDepth 100000 in
set_option maxHeartbeats 4000000 in
theorem c_X6_isBlank {l : Launch} {g : Gp} {X : va_W} (hE : E0 g) {F : Nat} {r' : Int32} {σ : St} {x0 : Int32} (h : f_X6_isBlank F σ x0 = some r') : Ci l g yX6_isBlank cX6_isBlank 1 (some .boolean) 0 [.int x0] (wD g σ ++ X) r' (wD g σ ++ X) := by
  refine rHead hE (by decide +kernel) (Nat.le_of_ble_eq_true rfl) (fun p e s m below meth c C hr _ hd ls hl => ?_)
  have hx := C.1
  have hb := C.2.1
  have hl : lv_has ls 1 [(0, .int x0)] := hl
  generalize ([.int x0] : List Value).toArray = args at C ⊢
  have C : Cx g p s m args meth c cX6_isBlank 1 RX6 := C
  rw [f_X6_isBlank] at h
  refine lv_iload_n hx hb dX6_isBlank_0 rfl (lv_at hl 0 rfl) ?_
  refine lv_bipush (v := 9) hx hb dX6_isBlank_1 bi_9 ?_
  refine lv_icmp_eq (tgt := 24) hx hb dX6_isBlank_3 (by decide) (fun c1 => ?_) (fun c1 => ?_)
  · replace h := iteT c1 h
    refine lv_iconst (v := 1) hx hb dX6_isBlank_24 ic_1 ?_
    refine lv_goto (tgt := 29) hx hb dX6_isBlank_25 (by decide) ?_
    exact rZretP C hr hd h (by decide) dX6_isBlank_29
  · replace h := iteF c1 h
    refine lv_iload_n hx hb dX6_isBlank_6 rfl (lv_at hl 0 rfl) ?_
    refine lv_bipush (v := 10) hx hb dX6_isBlank_7 bi_10 ?_
    refine lv_icmp_eq (tgt := 24) hx hb dX6_isBlank_9 (by decide) (fun c2 => ?_) (fun c2 => ?_)
    · replace h := iteT c2 h
      refine lv_iconst (v := 1) hx hb dX6_isBlank_24 ic_1 ?_
      refine lv_goto (tgt := 29) hx hb dX6_isBlank_25 (by decide) ?_
      exact rZretP C hr hd h (by decide) dX6_isBlank_29
    · replace h := iteF c2 h
      refine lv_iload_n hx hb dX6_isBlank_12 rfl (lv_at hl 0 rfl) ?_
      refine lv_bipush (v := 13) hx hb dX6_isBlank_13 bi_13 ?_
      refine lv_icmp_eq (tgt := 24) hx hb dX6_isBlank_15 (by decide) (fun c3 => ?_) (fun c3 => ?_)
      · replace h := iteT c3 h
        refine lv_iconst (v := 1) hx hb dX6_isBlank_24 ic_1 ?_
        refine lv_goto (tgt := 29) hx hb dX6_isBlank_25 (by decide) ?_
        exact rZretP C hr hd h (by decide) dX6_isBlank_29
      · replace h := iteF c3 h
        refine lv_iload_n hx hb dX6_isBlank_18 rfl (lv_at hl 0 rfl) ?_
        refine lv_bipush (v := 32) hx hb dX6_isBlank_19 bi_32 ?_
        refine lv_icmp_ne (tgt := 28) hx hb dX6_isBlank_21 (by decide) (fun c4 => ?_) (fun c4 => ?_)
        · replace h := iteF c4 h
          refine lv_iconst (v := 0) hx hb dX6_isBlank_28 ic_0 ?_
          exact rZretP C hr hd h (by decide) dX6_isBlank_29
        · replace h := iteT c4 h
          refine lv_iconst (v := 1) hx hb dX6_isBlank_24 ic_1 ?_
          refine lv_goto (tgt := 29) hx hb dX6_isBlank_25 (by decide) ?_
          exact rZretP C hr hd h (by decide) dX6_isBlank_29
noncomputable def f_X6_isWord_33 (F : Nat) (k_3 : St → Int32 → Int32 → Int32 → Int32 → Option Int32) (σ : St) (x1 : Int32) (x2 : Int32) (x3 : Int32) (x4 : Int32) (y0 : Int32) : Option Int32 :=
  cal (f_J0_charAt_5068e F 0 σ ((x3 * 8) + x4)) (fun r1 => if y0 = r1 then (bnd (x4 + 1) (fun v3 => k_3 σ x1 x2 x3 v3)) else (some 0))
set_option maxRecDepth 100000 in
set_option maxHeartbeats 4000000 in
theorem w_X6_isWord_33 {F : Nat} {r' : Int32}  (C : Cx g p s m args meth c cX6_isWord 6 RX6) (hr : meth.sig.returnType = some .boolean)
    {k_3 : St → Int32 → Int32 → Int32 → Int32 → Option Int32} (hk_3 : (∀ (σ : St) (x1 : Int32) (x2 : Int32) (x3 : Int32) (x4 : Int32), k_3 σ x1 x2 x3 x4 = some r' → ∀ (H : Heap) (locs : List Loc) (ls : Array Slot), Dy g (wD g σ ++ X) s H locs → lv_has ls 6 [(0, .ref (ga g 9)), (1, .int x1), (2, .int x2), (3, .int x3), (4, .int x4)] → W p l e (rmD 4) s m args below meth c H locs 0 0 (QI g below args s (wD g σ ++ X) r') (F0 m 3 ls []))) :
    (∀ (σ : St) (x1 : Int32) (x2 : Int32) (x3 : Int32) (x4 : Int32) (y0 : Int32), f_X6_isWord_33 F k_3 σ x1 x2 x3 x4 y0 = some r' → ∀ (H : Heap) (locs : List Loc) (ls : Array Slot), Dy g (wD g σ ++ X) s H locs → lv_has ls 6 [(0, .ref (ga g 9)), (1, .int x1), (2, .int x2), (3, .int x3), (4, .int x4)] → W p l e (rmD 4) s m args below meth c H locs 0 0 (QI g below args s (wD g σ ++ X) r') (F0 m 33 ls [.int y0])) := by
  have hx := C.1
  have hb := C.2.1
  have hE := C.2.2.2.2.2.2.2.2
  intro σ x1 x2 x3 x4 y0 h H locs ls hd hl
  rw [f_X6_isWord_33] at h
  refine lv_istore (lv' := [(5, .int y0), (0, .ref (ga g 9)), (1, .int x1), (2, .int x2), (3, .int x3), (4, .int x4)]) hx hb dX6_isWord_33 hl (Nat.le_of_ble_eq_true rfl) rfl (fun ls hl => ?_)
  refine lv_iload hx hb dX6_isWord_35 (lv_at hl 0 rfl) ?_
  refine rLdcS C (i := 0) (tx := "pages   piece   write   add     mark    fill    copy    upon    take    close   restore lose    do      end     i       j       place   line    copies  told    ") (by decide) rfl (mT 403 (by decide +kernel)) dX6_isWord_37 ?_
  refine lv_iload_n hx hb dX6_isWord_39 rfl (lv_at hl 4 rfl) ?_
  refine lv_bipush (v := 8) hx hb dX6_isWord_40 bi_8 ?_
  refine lv_imul hx hb dX6_isWord_42 ?_
  refine lv_iload hx hb dX6_isWord_43 (lv_at hl 5 rfl) ?_
  refine lv_iadd hx hb dX6_isWord_45 ?_
  obtain ⟨r1, er1, h⟩ := cal_e h
  refine rCallSt C hd (by decide) (c_J0_charAt_5068e hE (by decide) er1) kX6_72 rfl rfl hl.1 rfl (Nat.le_of_ble_eq_true rfl) ⟨(Nat.le_of_ble_eq_true rfl), (Nat.le_of_ble_eq_true rfl)⟩ ⟨Nat.le_refl _, Nat.le_refl _⟩ dX6_isWord_46 (fun H locs hd => ?_)
  refine lv_icmp_eq (tgt := 54) hx hb dX6_isWord_49 (by decide) (fun c2 => ?_) (fun c2 => ?_)
  · replace h := iteT c2 h
    obtain ⟨v3, ev3, h⟩ := bnd_e h
    refine lv_iinc (v := v3) (lv' := [(4, .int v3), (5, .int y0), (0, .ref (ga g 9)), (1, .int x1), (2, .int x2), (3, .int x3)]) hx hb dX6_isWord_54 hl (k := 5) rfl ((ii_1 _).trans ev3.symm) (Nat.le_of_ble_eq_true rfl) rfl (fun ls hl => ?_)
    refine lv_goto (tgt := 3) hx hb dX6_isWord_57 (by decide) ?_
    exact hk_3 σ x1 x2 x3 v3 h _ _ _ hd (lv_sub hl [2, 3, 4, 5, 0] rfl)
  · replace h := iteF c2 h
    refine lv_iconst (v := 0) hx hb dX6_isWord_52 ic_0 ?_
    exact rZretP C hr hd h (by decide) dX6_isWord_53
noncomputable def f_X6_isWord_3 (F : Nat) : Nat → St → Int32 → Int32 → Int32 → Int32 → Option Int32
  | 0, _, _, _, _, _ => none
  | n + 1, σ, x1, x2, x3, x4 => if 8 ≤ x4 then (some 1) else (if x2 ≤ (x1 + x4) then (f_X6_isWord_33 F (f_X6_isWord_3 F n) σ x1 x2 x3 x4 32) else (if inb (x1 + x4) 2000 = true then f_X6_isWord_33 F (f_X6_isWord_3 F n) σ x1 x2 x3 x4 ((σ.2.1 9 (x1 + x4).toNatClampNeg) &&& 255) else none))
set_option maxRecDepth 100000 in
set_option maxHeartbeats 4000000 in
theorem w_X6_isWord_3 {F : Nat} {r' : Int32}  (C : Cx g p s m args meth c cX6_isWord 6 RX6) (hr : meth.sig.returnType = some .boolean) :
    (∀ (n : Nat) (σ : St) (x1 : Int32) (x2 : Int32) (x3 : Int32) (x4 : Int32), f_X6_isWord_3 F n σ x1 x2 x3 x4 = some r' → ∀ (H : Heap) (locs : List Loc) (ls : Array Slot), Dy g (wD g σ ++ X) s H locs → lv_has ls 6 [(0, .ref (ga g 9)), (1, .int x1), (2, .int x2), (3, .int x3), (4, .int x4)] → W p l e (rmD 4) s m args below meth c H locs 0 0 (QI g below args s (wD g σ ++ X) r') (F0 m 3 ls [])) := by
  have hx := C.1
  have hb := C.2.1
  have hE := C.2.2.2.2.2.2.2.2
  intro n
  induction n with
  | zero =>
    intro σ x1 x2 x3 x4 h
    cases h
  | succ n ih =>
    intro σ x1 x2 x3 x4 h H locs ls hd hl
    rw [f_X6_isWord_3] at h
    refine lv_iload hx hb dX6_isWord_3 (lv_at hl 4 rfl) ?_
    refine lv_bipush (v := 8) hx hb dX6_isWord_5 bi_8 ?_
    refine lv_icmp_ge (tgt := 60) hx hb dX6_isWord_7 (by decide) (fun c1 => ?_) (fun c1 => ?_)
    · replace h := iteT c1 h
      refine lv_iconst (v := 1) hx hb dX6_isWord_60 ic_1 ?_
      exact rZretP C hr hd h (by decide) dX6_isWord_61
    · replace h := iteF c1 h
      refine lv_iload_n hx hb dX6_isWord_10 rfl (lv_at hl 1 rfl) ?_
      refine lv_iload hx hb dX6_isWord_11 (lv_at hl 4 rfl) ?_
      refine lv_iadd hx hb dX6_isWord_13 ?_
      refine lv_iload_n hx hb dX6_isWord_14 rfl (lv_at hl 2 rfl) ?_
      refine lv_icmp_ge (tgt := 31) hx hb dX6_isWord_15 (by decide) (fun c2 => ?_) (fun c2 => ?_)
      · replace h := iteT c2 h
        refine lv_bipush (v := 32) hx hb dX6_isWord_31 bi_32 ?_
        exact w_X6_isWord_33 C hr ih σ x1 x2 x3 x4 32 h _ _ _ hd (lv_sub hl [0, 1, 2, 3, 4] rfl)
      · replace h := iteF c2 h
        refine lv_aload_n hx hb dX6_isWord_18 rfl (lv_at hl 0 rfl) ?_
        refine lv_iload_n hx hb dX6_isWord_19 rfl (lv_at hl 1 rfl) ?_
        refine lv_iload hx hb dX6_isWord_20 (lv_at hl 4 rfl) ?_
        refine lv_iadd hx hb dX6_isWord_22 ?_
        obtain ⟨n3, h⟩ := chk h
        refine ld_wD_9 C hd (inb_i n3) dX6_isWord_23 ?_
        refine lv_sipush (v := 255) hx hb dX6_isWord_24 si_255 ?_
        refine lv_iand hx hb dX6_isWord_27 ?_
        refine lv_goto (tgt := 33) hx hb dX6_isWord_28 (by decide) ?_
        exact w_X6_isWord_33 C hr ih σ x1 x2 x3 x4 ((σ.2.1 9 (x1 + x4).toNatClampNeg) &&& 255) h _ _ _ hd (lv_sub hl [0, 1, 2, 3, 4] rfl)
noncomputable def f_X6_isWord (F : Nat) (σ : St) (x1 : Int32) (x2 : Int32) (x3 : Int32) : Option Int32 :=
  f_X6_isWord_3 F F σ x1 x2 x3 0
set_option maxRecDepth 100000 in
set_option maxHeartbeats 4000000 in
theorem c_X6_isWord {l : Launch} {g : Gp} {X : va_W} (hE : E0 g) {F : Nat} {r' : Int32} {σ : St} {x1 : Int32} {x2 : Int32} {x3 : Int32} (h : f_X6_isWord F σ x1 x2 x3 = some r') : Ci l g yX6_isWord cX6_isWord 6 (some .boolean) 4 [.ref (ga g 9), .int x1, .int x2, .int x3] (wD g σ ++ X) r' (wD g σ ++ X) := by
  refine rHead hE (by decide +kernel) (Nat.le_of_ble_eq_true rfl) (fun p e s m below meth c C hr _ hd ls hl => ?_)
  have hx := C.1
  have hb := C.2.1
  have hl : lv_has ls 6 [(0, .ref (ga g 9)), (1, .int x1), (2, .int x2), (3, .int x3)] := hl
  generalize ([.ref (ga g 9), .int x1, .int x2, .int x3] : List Value).toArray = args at C ⊢
  have C : Cx g p s m args meth c cX6_isWord 6 RX6 := C
  rw [f_X6_isWord] at h
  refine lv_iconst (v := 0) hx hb dX6_isWord_0 ic_0 ?_
  refine lv_istore (lv' := [(4, .int 0), (0, .ref (ga g 9)), (1, .int x1), (2, .int x2), (3, .int x3)]) hx hb dX6_isWord_1 hl (Nat.le_of_ble_eq_true rfl) rfl (fun ls hl => ?_)
  exact w_X6_isWord_3 C hr _ σ x1 x2 x3 0 h _ _ _ hd (lv_sub hl [1, 2, 3, 4, 0] rfl)
noncomputable def f_X6_wordAt_13 (F : Nat) : Nat → St → Int32 → Int32 → Int32 → Option Int32
  | 0, _, _, _, _ => none
  | n + 1, σ, x1, x2, x3 => if 20 ≤ x3 then (some 30) else (cal (f_X6_isWord F σ x1 x2 x3) (fun r2 => if r2 = 0 then (bnd (x3 + 1) (fun v4 => f_X6_wordAt_13 F n σ x1 x2 v4)) else (some x3)))
set_option maxRecDepth 100000 in
set_option maxHeartbeats 4000000 in
theorem w_X6_wordAt_13 {F : Nat} {r' : Int32}  (C : Cx g p s m args meth c cX6_wordAt 4 RX6) (hr : meth.sig.returnType = some .int) :
    (∀ (n : Nat) (σ : St) (x1 : Int32) (x2 : Int32) (x3 : Int32), f_X6_wordAt_13 F n σ x1 x2 x3 = some r' → ∀ (H : Heap) (locs : List Loc) (ls : Array Slot), Dy g (wD g σ ++ X) s H locs → lv_has ls 4 [(0, .ref (ga g 9)), (1, .int x1), (2, .int x2), (3, .int x3)] → W p l e (rmD 5) s m args below meth c H locs 0 0 (QI g below args s (wD g σ ++ X) r') (F0 m 13 ls [])) := by
  have hx := C.1
  have hb := C.2.1
  have hE := C.2.2.2.2.2.2.2.2
  intro n
  induction n with
  | zero =>
    intro σ x1 x2 x3 h
    cases h
  | succ n ih =>
    intro σ x1 x2 x3 h H locs ls hd hl
    rw [f_X6_wordAt_13] at h
    refine lv_iload_n hx hb dX6_wordAt_13 rfl (lv_at hl 3 rfl) ?_
    refine lv_bipush (v := 20) hx hb dX6_wordAt_14 bi_20 ?_
    refine lv_icmp_ge (tgt := 37) hx hb dX6_wordAt_16 (by decide) (fun c1 => ?_) (fun c1 => ?_)
    · replace h := iteT c1 h
      refine lv_bipush (v := 30) hx hb dX6_wordAt_37 bi_30 ?_
      exact rIretP C hr hd h dX6_wordAt_39
    · replace h := iteF c1 h
      refine lv_aload_n hx hb dX6_wordAt_19 rfl (lv_at hl 0 rfl) ?_
      refine lv_iload_n hx hb dX6_wordAt_20 rfl (lv_at hl 1 rfl) ?_
      refine lv_iload_n hx hb dX6_wordAt_21 rfl (lv_at hl 2 rfl) ?_
      refine lv_iload_n hx hb dX6_wordAt_22 rfl (lv_at hl 3 rfl) ?_
      obtain ⟨r2, er2, h⟩ := cal_e h
      refine rCallSI C hd (c_X6_isWord hE er2) kX6_66 rfl hl.1 rfl (Nat.le_of_ble_eq_true rfl) ⟨(Nat.le_of_ble_eq_true rfl), (Nat.le_of_ble_eq_true rfl)⟩ ⟨Nat.le_refl _, Nat.le_refl _⟩ dX6_wordAt_23 (fun H locs hd => ?_)
      refine lv_if_eq (tgt := 31) hx hb dX6_wordAt_26 (by decide) (fun c3 => ?_) (fun c3 => ?_)
      · replace h := iteT c3 h
        obtain ⟨v4, ev4, h⟩ := bnd_e h
        refine lv_iinc (v := v4) (lv' := [(3, .int v4), (0, .ref (ga g 9)), (1, .int x1), (2, .int x2)]) hx hb dX6_wordAt_31 hl (k := 3) rfl ((ii_1 _).trans ev4.symm) (Nat.le_of_ble_eq_true rfl) rfl (fun ls hl => ?_)
        refine lv_goto (tgt := 13) hx hb dX6_wordAt_34 (by decide) ?_
        exact ih σ x1 x2 v4 h _ _ _ hd (lv_sub hl [1, 2, 3, 0] rfl)
      · replace h := iteF c3 h
        refine lv_iload_n hx hb dX6_wordAt_29 rfl (lv_at hl 3 rfl) ?_
        exact rIretP C hr hd h dX6_wordAt_30
noncomputable def f_X6_wordAt (F : Nat) (σ : St) (x1 : Int32) (x2 : Int32) : Option Int32 :=
  if (x2 - x1) ≤ 8 then (f_X6_wordAt_13 F F σ x1 x2 0) else (some 30)
set_option maxRecDepth 100000 in
set_option maxHeartbeats 4000000 in
theorem c_X6_wordAt {l : Launch} {g : Gp} {X : va_W} (hE : E0 g) {F : Nat} {r' : Int32} {σ : St} {x1 : Int32} {x2 : Int32} (h : f_X6_wordAt F σ x1 x2 = some r') : Ci l g yX6_wordAt cX6_wordAt 4 (some .int) 5 [.ref (ga g 9), .int x1, .int x2] (wD g σ ++ X) r' (wD g σ ++ X) := by
  refine rHead hE (by decide +kernel) (Nat.le_of_ble_eq_true rfl) (fun p e s m below meth c C hr _ hd ls hl => ?_)
  have hx := C.1
  have hb := C.2.1
  have hl : lv_has ls 4 [(0, .ref (ga g 9)), (1, .int x1), (2, .int x2)] := hl
  generalize ([.ref (ga g 9), .int x1, .int x2] : List Value).toArray = args at C ⊢
  have C : Cx g p s m args meth c cX6_wordAt 4 RX6 := C
  rw [f_X6_wordAt] at h
  refine lv_iload_n hx hb dX6_wordAt_0 rfl (lv_at hl 2 rfl) ?_
  refine lv_iload_n hx hb dX6_wordAt_1 rfl (lv_at hl 1 rfl) ?_
  refine lv_isub hx hb dX6_wordAt_2 ?_
  refine lv_bipush (v := 8) hx hb dX6_wordAt_3 bi_8 ?_
  refine lv_icmp_le (tgt := 11) hx hb dX6_wordAt_5 (by decide) (fun c1 => ?_) (fun c1 => ?_)
  · replace h := iteT c1 h
    refine lv_iconst (v := 0) hx hb dX6_wordAt_11 ic_0 ?_
    refine lv_istore_n (lv' := [(3, .int 0), (0, .ref (ga g 9)), (1, .int x1), (2, .int x2)]) hx hb dX6_wordAt_12 rfl hl (Nat.le_of_ble_eq_true rfl) rfl (fun ls hl => ?_)
    exact w_X6_wordAt_13 C hr _ σ x1 x2 0 h _ _ _ hd (lv_sub hl [1, 2, 3, 0] rfl)
  · replace h := iteF c1 h
    refine lv_bipush (v := 30) hx hb dX6_wordAt_8 bi_30 ?_
    exact rIretP C hr hd h dX6_wordAt_10
noncomputable def f_X6_kindOf (F : Nat) (σ : St) (x1 : Int32) (x2 : Int32) : Option Int32 :=
  if inb x1 2000 = true then bnd ((σ.2.1 9 x1.toNatClampNeg) &&& 255) (fun v2 => cal (f_X6_isLetter F σ v2) (fun r3 => if r3 = 0 then (cal (f_X6_isDigit F σ v2) (fun r5 => if r5 = 0 then (cal (f_J0_indexOf_0f7a4 F 1 σ (UInt32.toInt32 (Int32.toUInt32 v2 % 65536))) (fun r7 => if 0 ≤ r7 then (some (21 + r7)) else (some 30))) else (if (x2 - x1) ≤ 4 then (some 20) else (some 30)))) else (cal (f_X6_wordAt F σ x1 x2) (fun r10 => some r10)))) else none
set_option maxRecDepth 100000 in
set_option maxHeartbeats 4000000 in
theorem c_X6_kindOf {l : Launch} {g : Gp} {X : va_W} (hE : E0 g) {F : Nat} {r' : Int32} {σ : St} {x1 : Int32} {x2 : Int32} (h : f_X6_kindOf F σ x1 x2 = some r') : Ci l g yX6_kindOf cX6_kindOf 5 (some .int) 6 [.ref (ga g 9), .int x1, .int x2] (wD g σ ++ X) r' (wD g σ ++ X) := by
  refine rHead hE (by decide +kernel) (Nat.le_of_ble_eq_true rfl) (fun p e s m below meth c C hr _ hd ls hl => ?_)
  have hx := C.1
  have hb := C.2.1
  have hl : lv_has ls 5 [(0, .ref (ga g 9)), (1, .int x1), (2, .int x2)] := hl
  generalize ([.ref (ga g 9), .int x1, .int x2] : List Value).toArray = args at C ⊢
  have C : Cx g p s m args meth c cX6_kindOf 5 RX6 := C
  rw [f_X6_kindOf] at h
  refine lv_aload_n hx hb dX6_kindOf_0 rfl (lv_at hl 0 rfl) ?_
  refine lv_iload_n hx hb dX6_kindOf_1 rfl (lv_at hl 1 rfl) ?_
  obtain ⟨n1, h⟩ := chk h
  refine ld_wD_9 C hd (inb_i n1) dX6_kindOf_2 ?_
  refine lv_sipush (v := 255) hx hb dX6_kindOf_3 si_255 ?_
  refine lv_iand hx hb dX6_kindOf_6 ?_
  obtain ⟨v2, ev2, h⟩ := bnd_e h
  refine rTop ev2 ?_
  refine lv_istore_n (lv' := [(3, .int v2), (0, .ref (ga g 9)), (1, .int x1), (2, .int x2)]) hx hb dX6_kindOf_7 rfl hl (Nat.le_of_ble_eq_true rfl) rfl (fun ls hl => ?_)
  refine lv_iload_n hx hb dX6_kindOf_8 rfl (lv_at hl 0 rfl) ?_
  obtain ⟨r3, er3, h⟩ := cal_e h
  refine rCallSI C hd (c_X6_isLetter hE er3) kX6_49 rfl hl.1 rfl (Nat.le_of_ble_eq_true rfl) ⟨(Nat.le_of_ble_eq_true rfl), (Nat.le_of_ble_eq_true rfl)⟩ ⟨Nat.le_refl _, Nat.le_refl _⟩ dX6_kindOf_9 (fun H locs hd => ?_)
  refine lv_if_eq (tgt := 22) hx hb dX6_kindOf_12 (by decide) (fun c4 => ?_) (fun c4 => ?_)
  · replace h := iteT c4 h
    refine lv_iload_n hx hb dX6_kindOf_22 rfl (lv_at hl 0 rfl) ?_
    obtain ⟨r5, er5, h⟩ := cal_e h
    refine rCallSI C hd (c_X6_isDigit hE er5) kX6_52 rfl hl.1 rfl (Nat.le_of_ble_eq_true rfl) ⟨(Nat.le_of_ble_eq_true rfl), (Nat.le_of_ble_eq_true rfl)⟩ ⟨Nat.le_refl _, Nat.le_refl _⟩ dX6_kindOf_23 (fun H locs hd => ?_)
    refine lv_if_eq (tgt := 44) hx hb dX6_kindOf_26 (by decide) (fun c6 => ?_) (fun c6 => ?_)
    · replace h := iteT c6 h
      refine rLdcS C (i := 1) (tx := ";+-*/%()") (by decide) rfl (mT 443 (by decide +kernel)) dX6_kindOf_44 ?_
      refine lv_iload_n hx hb dX6_kindOf_46 rfl (lv_at hl 0 rfl) ?_
      refine lv_i2c hx hb dX6_kindOf_47 rfl ?_
      obtain ⟨r7, er7, h⟩ := cal_e h
      refine rCallSt C hd (by decide) (c_J0_indexOf_0f7a4 hE (by decide) er7) kX6_60 rfl rfl hl.1 rfl (Nat.le_of_ble_eq_true rfl) ⟨(Nat.le_of_ble_eq_true rfl), (Nat.le_of_ble_eq_true rfl)⟩ ⟨Nat.le_refl _, Nat.le_refl _⟩ dX6_kindOf_48 (fun H locs hd => ?_)
      refine lv_istore (lv' := [(4, .int r7), (3, .int v2), (0, .ref (ga g 9)), (1, .int x1), (2, .int x2)]) hx hb dX6_kindOf_51 hl (Nat.le_of_ble_eq_true rfl) rfl (fun ls hl => ?_)
      refine lv_iload hx hb dX6_kindOf_53 (lv_at hl 0 rfl) ?_
      refine lv_if_ge (tgt := 63) hx hb dX6_kindOf_55 (by decide) (fun c8 => ?_) (fun c8 => ?_)
      · replace h := iteT c8 h
        refine lv_bipush (v := 21) hx hb dX6_kindOf_63 bi_21 ?_
        refine lv_iload hx hb dX6_kindOf_65 (lv_at hl 0 rfl) ?_
        refine lv_iadd hx hb dX6_kindOf_67 ?_
        exact rIretP C hr hd h dX6_kindOf_68
      · replace h := iteF c8 h
        refine lv_bipush (v := 30) hx hb dX6_kindOf_58 bi_30 ?_
        refine lv_goto (tgt := 68) hx hb dX6_kindOf_60 (by decide) ?_
        exact rIretP C hr hd h dX6_kindOf_68
    · replace h := iteF c6 h
      refine lv_iload_n hx hb dX6_kindOf_29 rfl (lv_at hl 3 rfl) ?_
      refine lv_iload_n hx hb dX6_kindOf_30 rfl (lv_at hl 2 rfl) ?_
      refine lv_isub hx hb dX6_kindOf_31 ?_
      refine lv_iconst (v := 4) hx hb dX6_kindOf_32 ic_4 ?_
      refine lv_icmp_le (tgt := 41) hx hb dX6_kindOf_33 (by decide) (fun c9 => ?_) (fun c9 => ?_)
      · replace h := iteT c9 h
        refine lv_bipush (v := 20) hx hb dX6_kindOf_41 bi_20 ?_
        exact rIretP C hr hd h dX6_kindOf_43
      · replace h := iteF c9 h
        refine lv_bipush (v := 30) hx hb dX6_kindOf_36 bi_30 ?_
        refine lv_goto (tgt := 43) hx hb dX6_kindOf_38 (by decide) ?_
        exact rIretP C hr hd h dX6_kindOf_43
  · replace h := iteF c4 h
    refine lv_aload_n hx hb dX6_kindOf_15 rfl (lv_at hl 1 rfl) ?_
    refine lv_iload_n hx hb dX6_kindOf_16 rfl (lv_at hl 2 rfl) ?_
    refine lv_iload_n hx hb dX6_kindOf_17 rfl (lv_at hl 3 rfl) ?_
    obtain ⟨r10, er10, h⟩ := cal_e h
    refine rCallSI C hd (c_X6_wordAt hE er10) kX6_55 rfl hl.1 rfl (Nat.le_of_ble_eq_true rfl) ⟨(Nat.le_of_ble_eq_true rfl), (Nat.le_of_ble_eq_true rfl)⟩ ⟨Nat.le_refl _, Nat.le_refl _⟩ dX6_kindOf_18 (fun H locs hd => ?_)
    exact rIretP C hr hd h dX6_kindOf_21
noncomputable def f_X6_numberOf_5 (F : Nat) : Nat → St → Int32 → Int32 → Int32 → Option Int32
  | 0, _, _, _, _ => none
  | n + 1, σ, x2, x3, x4 => if x2 ≤ x4 then (some x3) else (if inb x4 2000 = true then bnd (((x3 * 10) + ((σ.2.1 9 x4.toNatClampNeg) &&& 255)) - 48) (fun v3 => bnd (x4 + 1) (fun v4 => f_X6_numberOf_5 F n σ x2 v3 v4)) else none)
set_option maxRecDepth 100000 in
set_option maxHeartbeats 4000000 in
theorem w_X6_numberOf_5 {F : Nat} {r' : Int32}  (C : Cx g p s m args meth c cX6_numberOf 5 RX6) (hr : meth.sig.returnType = some .int) :
    (∀ (n : Nat) (σ : St) (x2 : Int32) (x3 : Int32) (x4 : Int32), f_X6_numberOf_5 F n σ x2 x3 x4 = some r' → ∀ (H : Heap) (locs : List Loc) (ls : Array Slot), Dy g (wD g σ ++ X) s H locs → lv_has ls 5 [(0, .ref (ga g 9)), (2, .int x2), (3, .int x3), (4, .int x4)] → W p l e (rmD 0) s m args below meth c H locs 0 0 (QI g below args s (wD g σ ++ X) r') (F0 m 5 ls [])) := by
  have hx := C.1
  have hb := C.2.1
  have hE := C.2.2.2.2.2.2.2.2
  intro n
  induction n with
  | zero =>
    intro σ x2 x3 x4 h
    cases h
  | succ n ih =>
    intro σ x2 x3 x4 h H locs ls hd hl
    rw [f_X6_numberOf_5] at h
    refine lv_iload hx hb dX6_numberOf_5 (lv_at hl 3 rfl) ?_
    refine lv_iload_n hx hb dX6_numberOf_7 rfl (lv_at hl 1 rfl) ?_
    refine lv_icmp_ge (tgt := 34) hx hb dX6_numberOf_8 (by decide) (fun c1 => ?_) (fun c1 => ?_)
    · replace h := iteT c1 h
      refine lv_iload_n hx hb dX6_numberOf_34 rfl (lv_at hl 2 rfl) ?_
      exact rIretP C hr hd h dX6_numberOf_35
    · replace h := iteF c1 h
      refine lv_iload_n hx hb dX6_numberOf_11 rfl (lv_at hl 2 rfl) ?_
      refine lv_bipush (v := 10) hx hb dX6_numberOf_12 bi_10 ?_
      refine lv_imul hx hb dX6_numberOf_14 ?_
      refine lv_aload_n hx hb dX6_numberOf_15 rfl (lv_at hl 0 rfl) ?_
      refine lv_iload hx hb dX6_numberOf_16 (lv_at hl 3 rfl) ?_
      obtain ⟨n2, h⟩ := chk h
      refine ld_wD_9 C hd (inb_i n2) dX6_numberOf_18 ?_
      refine lv_sipush (v := 255) hx hb dX6_numberOf_19 si_255 ?_
      refine lv_iand hx hb dX6_numberOf_22 ?_
      refine lv_iadd hx hb dX6_numberOf_23 ?_
      refine lv_bipush (v := 48) hx hb dX6_numberOf_24 bi_48 ?_
      refine lv_isub hx hb dX6_numberOf_26 ?_
      obtain ⟨v3, ev3, h⟩ := bnd_e h
      refine rTop ev3 ?_
      refine lv_istore_n (lv' := [(3, .int v3), (0, .ref (ga g 9)), (2, .int x2), (4, .int x4)]) hx hb dX6_numberOf_27 rfl hl (Nat.le_of_ble_eq_true rfl) rfl (fun ls hl => ?_)
      obtain ⟨v4, ev4, h⟩ := bnd_e h
      refine lv_iinc (v := v4) (lv' := [(4, .int v4), (3, .int v3), (0, .ref (ga g 9)), (2, .int x2)]) hx hb dX6_numberOf_28 hl (k := 3) rfl ((ii_1 _).trans ev4.symm) (Nat.le_of_ble_eq_true rfl) rfl (fun ls hl => ?_)
      refine lv_goto (tgt := 5) hx hb dX6_numberOf_31 (by decide) ?_
      exact ih σ x2 v3 v4 h _ _ _ hd (lv_sub hl [2, 3, 1, 0] rfl)
noncomputable def f_X6_numberOf (F : Nat) (σ : St) (x1 : Int32) (x2 : Int32) : Option Int32 :=
  f_X6_numberOf_5 F F σ x2 0 x1
set_option maxRecDepth 100000 in
set_option maxHeartbeats 4000000 in
theorem c_X6_numberOf {l : Launch} {g : Gp} {X : va_W} (hE : E0 g) {F : Nat} {r' : Int32} {σ : St} {x1 : Int32} {x2 : Int32} (h : f_X6_numberOf F σ x1 x2 = some r') : Ci l g yX6_numberOf cX6_numberOf 5 (some .int) 0 [.ref (ga g 9), .int x1, .int x2] (wD g σ ++ X) r' (wD g σ ++ X) := by
  refine rHead hE (by decide +kernel) (Nat.le_of_ble_eq_true rfl) (fun p e s m below meth c C hr _ hd ls hl => ?_)
  have hx := C.1
  have hb := C.2.1
  have hl : lv_has ls 5 [(0, .ref (ga g 9)), (1, .int x1), (2, .int x2)] := hl
  generalize ([.ref (ga g 9), .int x1, .int x2] : List Value).toArray = args at C ⊢
  have C : Cx g p s m args meth c cX6_numberOf 5 RX6 := C
  rw [f_X6_numberOf] at h
  refine lv_iconst (v := 0) hx hb dX6_numberOf_0 ic_0 ?_
  refine lv_istore_n (lv' := [(3, .int 0), (0, .ref (ga g 9)), (1, .int x1), (2, .int x2)]) hx hb dX6_numberOf_1 rfl hl (Nat.le_of_ble_eq_true rfl) rfl (fun ls hl => ?_)
  refine lv_iload_n hx hb dX6_numberOf_2 rfl (lv_at hl 2 rfl) ?_
  refine lv_istore (lv' := [(4, .int x1), (3, .int 0), (0, .ref (ga g 9)), (1, .int x1), (2, .int x2)]) hx hb dX6_numberOf_3 hl (Nat.le_of_ble_eq_true rfl) rfl (fun ls hl => ?_)
  exact w_X6_numberOf_5 C hr _ σ x2 0 x1 h _ _ _ hd (lv_sub hl [2, 4, 1, 0] rfl)
noncomputable def f_X6_put (F : Nat) (σ : St) (x1 : Int32) (x2 : Int32) (x3 : Int32) : Option St :=
  if (σ.1 19) < 0 then (some σ) else (if 402 ≤ (σ.1 19) then (some σ) else (if inb (σ.1 19) 402 = true then bnd (sr σ 26 (σ.1 19).toNatClampNeg x1) (fun t4 => if inb (t4.1 19) 402 = true then bnd (sr t4 27 (t4.1 19).toNatClampNeg x2) (fun t6 => if inb (t6.1 19) 402 = true then bnd (sr t6 28 (t6.1 19).toNatClampNeg x3) (fun t8 => bnd (ss t8 19 ((t8.1 19) + 1)) (fun t9 => some t9)) else none) else none) else none))
set_option maxRecDepth 100000 in
set_option maxHeartbeats 4000000 in
theorem c_X6_put {l : Launch} {g : Gp} {X : va_W} (hE : E0 g) {F : Nat} {σ' : St} {σ : St} {x1 : Int32} {x2 : Int32} {x3 : Int32} (h : f_X6_put F σ x1 x2 x3 = some σ') : Cv l g yX6_put cX6_put 4 0 [.ref (ga g 5), .int x1, .int x2, .int x3] (wD g σ ++ X) (wD g σ' ++ X) := by
  refine rHead hE (by decide +kernel) (Nat.le_of_ble_eq_true rfl) (fun p e s m below meth c C hr _ hd ls hl => ?_)
  have hx := C.1
  have hb := C.2.1
  have hl : lv_has ls 4 [(0, .ref (ga g 5)), (1, .int x1), (2, .int x2), (3, .int x3)] := hl
  generalize ([.ref (ga g 5), .int x1, .int x2, .int x3] : List Value).toArray = args at C ⊢
  have C : Cx g p s m args meth c cX6_put 4 RX6 := C
  rw [f_X6_put] at h
  refine lv_aload_n hx hb dX6_put_0 rfl (lv_at hl 0 rfl) ?_
  refine gX6_9 C hd dX6_put_1 ?_
  refine lv_if_lt (tgt := 59) hx hb dX6_put_4 (by decide) (fun c1 => ?_) (fun c1 => ?_)
  · replace h := iteT c1 h
    exact rVretS (w := wD g) C hr hd h dX6_put_59
  · replace h := iteF c1 h
    refine lv_aload_n hx hb dX6_put_7 rfl (lv_at hl 0 rfl) ?_
    refine gX6_9 C hd dX6_put_8 ?_
    refine lv_aload_n hx hb dX6_put_11 rfl (lv_at hl 0 rfl) ?_
    refine gX6_15 C hd dX6_put_12 ?_
    refine len_wD_26 C hd dX6_put_15 ?_
    refine lv_icmp_ge (tgt := 59) hx hb dX6_put_16 (by decide) (fun c2 => ?_) (fun c2 => ?_)
    · replace h := iteT c2 h
      exact rVretS (w := wD g) C hr hd h dX6_put_59
    · replace h := iteF c2 h
      refine lv_aload_n hx hb dX6_put_19 rfl (lv_at hl 0 rfl) ?_
      refine gX6_15 C hd dX6_put_20 ?_
      refine lv_aload_n hx hb dX6_put_23 rfl (lv_at hl 0 rfl) ?_
      refine gX6_9 C hd dX6_put_24 ?_
      refine lv_iload_n hx hb dX6_put_27 rfl (lv_at hl 1 rfl) ?_
      obtain ⟨n3, h⟩ := chk h
      obtain ⟨t4, et4, h⟩ := bnd_e h
      refine st_wD_26 C hd (inb_i n3) et4 dX6_put_28 (fun H locs hd => ?_)
      refine lv_aload_n hx hb dX6_put_29 rfl (lv_at hl 0 rfl) ?_
      refine gX6_19 C hd dX6_put_30 ?_
      refine lv_aload_n hx hb dX6_put_33 rfl (lv_at hl 0 rfl) ?_
      refine gX6_9 C hd dX6_put_34 ?_
      refine lv_iload_n hx hb dX6_put_37 rfl (lv_at hl 2 rfl) ?_
      obtain ⟨n5, h⟩ := chk h
      obtain ⟨t6, et6, h⟩ := bnd_e h
      refine st_wD_27 C hd (inb_i n5) et6 dX6_put_38 (fun H locs hd => ?_)
      refine lv_aload_n hx hb dX6_put_39 rfl (lv_at hl 0 rfl) ?_
      refine gX6_22 C hd dX6_put_40 ?_
      refine lv_aload_n hx hb dX6_put_43 rfl (lv_at hl 0 rfl) ?_
      refine gX6_9 C hd dX6_put_44 ?_
      refine lv_iload_n hx hb dX6_put_47 rfl (lv_at hl 3 rfl) ?_
      obtain ⟨n7, h⟩ := chk h
      obtain ⟨t8, et8, h⟩ := bnd_e h
      refine st_wD_28 C hd (inb_i n7) et8 dX6_put_48 (fun H locs hd => ?_)
      refine lv_aload_n hx hb dX6_put_49 rfl (lv_at hl 0 rfl) ?_
      refine lv_dup hx hb dX6_put_50 rfl ?_
      refine gX6_9 C hd dX6_put_51 ?_
      refine lv_iconst (v := 1) hx hb dX6_put_54 ic_1 ?_
      refine lv_iadd hx hb dX6_put_55 ?_
      obtain ⟨t9, et9, h⟩ := bnd_e h
      refine pX6_9 C hd et9 dX6_put_56 (fun H locs hd => ?_)
      exact rVretS (w := wD g) C hr hd h dX6_put_59
noncomputable def f_X6_scan_124 (F : Nat) (k_18 : St → Int32 → Int32 → Int32 → Option St) (σ : St) (x3 : Int32) (x4 : Int32) (x5 : Int32) : Option St :=
  bnd (x5 + 1) (fun v1 => k_18 σ x3 x4 v1)
set_option maxRecDepth 100000 in
set_option maxHeartbeats 4000000 in
theorem w_X6_scan_124 {F : Nat} {σ' : St}  (C : Cx g p s m args meth c cX6_scan 9 RX6) (hr : meth.sig.returnType = none)
    {k_18 : St → Int32 → Int32 → Int32 → Option St} (hk_18 : (∀ (σ : St) (x3 : Int32) (x4 : Int32) (x5 : Int32), k_18 σ x3 x4 x5 = some σ' → ∀ (H : Heap) (locs : List Loc) (ls : Array Slot), Dy g (wD g σ ++ X) s H locs → lv_has ls 9 [(0, .ref (ga g 5)), (1, .ref (ga g 9)), (3, .int x3), (4, .int x4), (5, .int x5)] → W p l e (rmD 7) s m args below meth c H locs 0 0 (QV g below args s (wD g σ' ++ X)) (F0 m 18 ls []))) :
    (∀ (σ : St) (x3 : Int32) (x4 : Int32) (x5 : Int32), f_X6_scan_124 F k_18 σ x3 x4 x5 = some σ' → ∀ (H : Heap) (locs : List Loc) (ls : Array Slot), Dy g (wD g σ ++ X) s H locs → lv_has ls 9 [(0, .ref (ga g 5)), (1, .ref (ga g 9)), (3, .int x3), (4, .int x4), (5, .int x5)] → W p l e (rmD 7) s m args below meth c H locs 0 0 (QV g below args s (wD g σ' ++ X)) (F0 m 124 ls [])) := by
  have hx := C.1
  have hb := C.2.1
  have hE := C.2.2.2.2.2.2.2.2
  intro σ x3 x4 x5 h H locs ls hd hl
  rw [f_X6_scan_124] at h
  obtain ⟨v1, ev1, h⟩ := bnd_e h
  refine lv_iinc (v := v1) (lv' := [(5, .int v1), (0, .ref (ga g 5)), (1, .ref (ga g 9)), (3, .int x3), (4, .int x4)]) hx hb dX6_scan_124 hl (k := 4) rfl ((ii_1 _).trans ev1.symm) (Nat.le_of_ble_eq_true rfl) rfl (fun ls hl => ?_)
  refine lv_goto (tgt := 18) hx hb dX6_scan_127 (by decide) ?_
  exact hk_18 σ x3 x4 v1 h _ _ _ hd (lv_sub hl [1, 2, 3, 4, 0] rfl)
noncomputable def f_X6_scan_107 (F : Nat) (k_18 : St → Int32 → Int32 → Int32 → Option St) (σ : St) (x3 : Int32) (x4 : Int32) (x5 : Int32) (x7 : Int32) (x8 : Int32) (y0 : Int32) (y1 : Int32) : Option St :=
  cal (f_X6_put F σ y1 y0 x4) (fun t1 => if x8 = 30 then (some t1) else (f_X6_scan_124 F k_18 t1 x3 x7 x5))
set_option maxRecDepth 100000 in
set_option maxHeartbeats 4000000 in
theorem w_X6_scan_107 {F : Nat} {σ' : St}  (C : Cx g p s m args meth c cX6_scan 9 RX6) (hr : meth.sig.returnType = none)
    {k_18 : St → Int32 → Int32 → Int32 → Option St} (hk_18 : (∀ (σ : St) (x3 : Int32) (x4 : Int32) (x5 : Int32), k_18 σ x3 x4 x5 = some σ' → ∀ (H : Heap) (locs : List Loc) (ls : Array Slot), Dy g (wD g σ ++ X) s H locs → lv_has ls 9 [(0, .ref (ga g 5)), (1, .ref (ga g 9)), (3, .int x3), (4, .int x4), (5, .int x5)] → W p l e (rmD 7) s m args below meth c H locs 0 0 (QV g below args s (wD g σ' ++ X)) (F0 m 18 ls []))) :
    (∀ (σ : St) (x3 : Int32) (x4 : Int32) (x5 : Int32) (x7 : Int32) (x8 : Int32) (y0 : Int32) (y1 : Int32), f_X6_scan_107 F k_18 σ x3 x4 x5 x7 x8 y0 y1 = some σ' → ∀ (H : Heap) (locs : List Loc) (ls : Array Slot), Dy g (wD g σ ++ X) s H locs → lv_has ls 9 [(0, .ref (ga g 5)), (1, .ref (ga g 9)), (3, .int x3), (4, .int x4), (5, .int x5), (7, .int x7), (8, .int x8)] → W p l e (rmD 7) s m args below meth c H locs 0 0 (QV g below args s (wD g σ' ++ X)) (F0 m 107 ls [.int y0, .int y1, .ref (ga g 5)])) := by
  have hx := C.1
  have hb := C.2.1
  have hE := C.2.2.2.2.2.2.2.2
  intro σ x3 x4 x5 x7 x8 y0 y1 h H locs ls hd hl
  rw [f_X6_scan_107] at h
  refine lv_iload hx hb dX6_scan_107 (lv_at hl 3 rfl) ?_
  obtain ⟨t1, et1, h⟩ := cal_e h
  refine rCallV C hd (c_X6_put hE et1) kX6_45 5 rfl rfl rfl rfl hl.1 rfl (Nat.le_of_ble_eq_true rfl) ⟨(Nat.le_of_ble_eq_true rfl), (Nat.le_of_ble_eq_true rfl)⟩ ⟨Nat.le_refl _, Nat.le_refl _⟩ dX6_scan_109 (fun H locs hd => ?_)
  refine lv_iload hx hb dX6_scan_112 (lv_at hl 6 rfl) ?_
  refine lv_bipush (v := 30) hx hb dX6_scan_114 bi_30 ?_
  refine lv_icmp_ne (tgt := 120) hx hb dX6_scan_116 (by decide) (fun c2 => ?_) (fun c2 => ?_)
  · replace h := iteF c2 h
    refine lv_iload hx hb dX6_scan_120 (lv_at hl 5 rfl) ?_
    refine lv_istore (lv' := [(4, .int x7), (0, .ref (ga g 5)), (1, .ref (ga g 9)), (3, .int x3), (5, .int x5), (7, .int x7), (8, .int x8)]) hx hb dX6_scan_122 hl (Nat.le_of_ble_eq_true rfl) rfl (fun ls hl => ?_)
    exact w_X6_scan_124 C hr hk_18 t1 x3 x7 x5 h _ _ _ hd (lv_sub hl [1, 2, 3, 0, 4] rfl)
  · replace h := iteT c2 h
    exact rVretS (w := wD g) C hr hd h dX6_scan_119
noncomputable def f_X6_scan_18 (F : Nat) : Nat → St → Int32 → Int32 → Int32 → Option St
  | 0, _, _, _, _ => none
  | n + 1, σ, x3, x4, x5 => if 2000 ≤ x5 then (cal (f_X6_put F σ 29 0 x3) (fun t2 => some t2)) else (if x3 ≤ x4 then (cal (f_X6_put F σ 29 0 x3) (fun t4 => some t4)) else (if 400 < (σ.1 19) then (cal (f_X6_put F σ 29 0 x3) (fun t6 => some t6)) else (if inb x4 2000 = true then bnd ((σ.2.1 9 x4.toNatClampNeg) &&& 255) (fun v8 => cal (f_X6_isBlank F σ v8) (fun r9 => if r9 = 0 then (cal (f_X6_endOfRun F σ x4 x3) (fun r11 => cal (f_X6_kindOf F σ x4 r11) (fun r12 => if r12 = 20 then (cal (f_X6_numberOf F σ x4 r11) (fun r14 => f_X6_scan_107 F (f_X6_scan_18 F n) σ x3 x4 x5 r11 r12 r14 r12)) else (f_X6_scan_107 F (f_X6_scan_18 F n) σ x3 x4 x5 r11 r12 0 r12)))) else (bnd (x4 + 1) (fun v15 => f_X6_scan_124 F (f_X6_scan_18 F n) σ x3 v15 x5)))) else none)))
set_option maxRecDepth 100000 in
set_option maxHeartbeats 4000000 in
theorem w_X6_scan_18 {F : Nat} {σ' : St}  (C : Cx g p s m args meth c cX6_scan 9 RX6) (hr : meth.sig.returnType = none) :
    (∀ (n : Nat) (σ : St) (x3 : Int32) (x4 : Int32) (x5 : Int32), f_X6_scan_18 F n σ x3 x4 x5 = some σ' → ∀ (H : Heap) (locs : List Loc) (ls : Array Slot), Dy g (wD g σ ++ X) s H locs → lv_has ls 9 [(0, .ref (ga g 5)), (1, .ref (ga g 9)), (3, .int x3), (4, .int x4), (5, .int x5)] → W p l e (rmD 7) s m args below meth c H locs 0 0 (QV g below args s (wD g σ' ++ X)) (F0 m 18 ls [])) := by
  have hx := C.1
  have hb := C.2.1
  have hE := C.2.2.2.2.2.2.2.2
  intro n
  induction n with
  | zero =>
    intro σ x3 x4 x5 h
    cases h
  | succ n ih =>
    intro σ x3 x4 x5 h H locs ls hd hl
    rw [f_X6_scan_18] at h
    refine lv_iload hx hb dX6_scan_18 (lv_at hl 4 rfl) ?_
    refine lv_sipush (v := 2000) hx hb dX6_scan_20 si_2000 ?_
    refine lv_icmp_ge (tgt := 130) hx hb dX6_scan_23 (by decide) (fun c1 => ?_) (fun c1 => ?_)
    · replace h := iteT c1 h
      refine lv_aload_n hx hb dX6_scan_130 rfl (lv_at hl 0 rfl) ?_
      refine lv_bipush (v := 29) hx hb dX6_scan_131 bi_29 ?_
      refine lv_iconst (v := 0) hx hb dX6_scan_133 ic_0 ?_
      refine lv_iload_n hx hb dX6_scan_134 rfl (lv_at hl 2 rfl) ?_
      obtain ⟨t2, et2, h⟩ := cal_e h
      refine rCallV C hd (c_X6_put hE et2) kX6_45 5 rfl rfl rfl rfl hl.1 rfl (Nat.le_of_ble_eq_true rfl) ⟨(Nat.le_of_ble_eq_true rfl), (Nat.le_of_ble_eq_true rfl)⟩ ⟨Nat.le_refl _, Nat.le_refl _⟩ dX6_scan_135 (fun H locs hd => ?_)
      exact rVretS (w := wD g) C hr hd h dX6_scan_138
    · replace h := iteF c1 h
      refine lv_iload hx hb dX6_scan_26 (lv_at hl 3 rfl) ?_
      refine lv_iload_n hx hb dX6_scan_28 rfl (lv_at hl 2 rfl) ?_
      refine lv_icmp_ge (tgt := 130) hx hb dX6_scan_29 (by decide) (fun c3 => ?_) (fun c3 => ?_)
      · replace h := iteT c3 h
        refine lv_aload_n hx hb dX6_scan_130 rfl (lv_at hl 0 rfl) ?_
        refine lv_bipush (v := 29) hx hb dX6_scan_131 bi_29 ?_
        refine lv_iconst (v := 0) hx hb dX6_scan_133 ic_0 ?_
        refine lv_iload_n hx hb dX6_scan_134 rfl (lv_at hl 2 rfl) ?_
        obtain ⟨t4, et4, h⟩ := cal_e h
        refine rCallV C hd (c_X6_put hE et4) kX6_45 5 rfl rfl rfl rfl hl.1 rfl (Nat.le_of_ble_eq_true rfl) ⟨(Nat.le_of_ble_eq_true rfl), (Nat.le_of_ble_eq_true rfl)⟩ ⟨Nat.le_refl _, Nat.le_refl _⟩ dX6_scan_135 (fun H locs hd => ?_)
        exact rVretS (w := wD g) C hr hd h dX6_scan_138
      · replace h := iteF c3 h
        refine lv_aload_n hx hb dX6_scan_32 rfl (lv_at hl 0 rfl) ?_
        refine gX6_9 C hd dX6_scan_33 ?_
        refine lv_sipush (v := 400) hx hb dX6_scan_36 si_400 ?_
        refine lv_icmp_gt (tgt := 130) hx hb dX6_scan_39 (by decide) (fun c5 => ?_) (fun c5 => ?_)
        · replace h := iteT c5 h
          refine lv_aload_n hx hb dX6_scan_130 rfl (lv_at hl 0 rfl) ?_
          refine lv_bipush (v := 29) hx hb dX6_scan_131 bi_29 ?_
          refine lv_iconst (v := 0) hx hb dX6_scan_133 ic_0 ?_
          refine lv_iload_n hx hb dX6_scan_134 rfl (lv_at hl 2 rfl) ?_
          obtain ⟨t6, et6, h⟩ := cal_e h
          refine rCallV C hd (c_X6_put hE et6) kX6_45 5 rfl rfl rfl rfl hl.1 rfl (Nat.le_of_ble_eq_true rfl) ⟨(Nat.le_of_ble_eq_true rfl), (Nat.le_of_ble_eq_true rfl)⟩ ⟨Nat.le_refl _, Nat.le_refl _⟩ dX6_scan_135 (fun H locs hd => ?_)
          exact rVretS (w := wD g) C hr hd h dX6_scan_138
        · replace h := iteF c5 h
          refine lv_aload_n hx hb dX6_scan_42 rfl (lv_at hl 1 rfl) ?_
          refine lv_iload hx hb dX6_scan_43 (lv_at hl 3 rfl) ?_
          obtain ⟨n7, h⟩ := chk h
          refine ld_wD_9 C hd (inb_i n7) dX6_scan_45 ?_
          refine lv_sipush (v := 255) hx hb dX6_scan_46 si_255 ?_
          refine lv_iand hx hb dX6_scan_49 ?_
          obtain ⟨v8, ev8, h⟩ := bnd_e h
          refine rTop ev8 ?_
          refine lv_istore (lv' := [(6, .int v8), (0, .ref (ga g 5)), (1, .ref (ga g 9)), (3, .int x3), (4, .int x4), (5, .int x5)]) hx hb dX6_scan_50 hl (Nat.le_of_ble_eq_true rfl) rfl (fun ls hl => ?_)
          refine lv_iload hx hb dX6_scan_52 (lv_at hl 0 rfl) ?_
          obtain ⟨r9, er9, h⟩ := cal_e h
          refine rCallSI C hd (c_X6_isBlank hE er9) kX6_31 rfl hl.1 rfl (Nat.le_of_ble_eq_true rfl) ⟨(Nat.le_of_ble_eq_true rfl), (Nat.le_of_ble_eq_true rfl)⟩ ⟨Nat.le_refl _, Nat.le_refl _⟩ dX6_scan_54 (fun H locs hd => ?_)
          refine lv_if_eq (tgt := 66) hx hb dX6_scan_57 (by decide) (fun c10 => ?_) (fun c10 => ?_)
          · replace h := iteT c10 h
            refine lv_aload_n hx hb dX6_scan_66 rfl (lv_at hl 2 rfl) ?_
            refine lv_iload hx hb dX6_scan_67 (lv_at hl 4 rfl) ?_
            refine lv_iload_n hx hb dX6_scan_69 rfl (lv_at hl 3 rfl) ?_
            obtain ⟨r11, er11, h⟩ := cal_e h
            refine rCallSI C hd (c_X6_endOfRun hE er11) kX6_35 rfl hl.1 rfl (Nat.le_of_ble_eq_true rfl) ⟨(Nat.le_of_ble_eq_true rfl), (Nat.le_of_ble_eq_true rfl)⟩ ⟨Nat.le_refl _, Nat.le_refl _⟩ dX6_scan_70 (fun H locs hd => ?_)
            refine lv_istore (lv' := [(7, .int r11), (6, .int v8), (0, .ref (ga g 5)), (1, .ref (ga g 9)), (3, .int x3), (4, .int x4), (5, .int x5)]) hx hb dX6_scan_73 hl (Nat.le_of_ble_eq_true rfl) rfl (fun ls hl => ?_)
            refine lv_aload_n hx hb dX6_scan_75 rfl (lv_at hl 3 rfl) ?_
            refine lv_iload hx hb dX6_scan_76 (lv_at hl 5 rfl) ?_
            refine lv_iload hx hb dX6_scan_78 (lv_at hl 0 rfl) ?_
            obtain ⟨r12, er12, h⟩ := cal_e h
            refine rCallSI C hd (c_X6_kindOf hE er12) kX6_39 rfl hl.1 rfl (Nat.le_of_ble_eq_true rfl) ⟨(Nat.le_of_ble_eq_true rfl), (Nat.le_of_ble_eq_true rfl)⟩ ⟨Nat.le_refl _, Nat.le_refl _⟩ dX6_scan_80 (fun H locs hd => ?_)
            refine lv_istore (lv' := [(8, .int r12), (7, .int r11), (6, .int v8), (0, .ref (ga g 5)), (1, .ref (ga g 9)), (3, .int x3), (4, .int x4), (5, .int x5)]) hx hb dX6_scan_83 hl (Nat.le_of_ble_eq_true rfl) rfl (fun ls hl => ?_)
            refine lv_aload_n hx hb dX6_scan_85 rfl (lv_at hl 3 rfl) ?_
            refine lv_iload hx hb dX6_scan_86 (lv_at hl 0 rfl) ?_
            refine lv_iload hx hb dX6_scan_88 (lv_at hl 0 rfl) ?_
            refine lv_bipush (v := 20) hx hb dX6_scan_90 bi_20 ?_
            refine lv_icmp_ne (tgt := 106) hx hb dX6_scan_92 (by decide) (fun c13 => ?_) (fun c13 => ?_)
            · replace h := iteF c13 h
              refine lv_iconst (v := 0) hx hb dX6_scan_106 ic_0 ?_
              exact w_X6_scan_107 C hr ih σ x3 x4 x5 r11 r12 0 r12 h _ _ _ hd (lv_sub hl [3, 4, 5, 6, 7, 1, 0] rfl)
            · replace h := iteT c13 h
              refine lv_aload_n hx hb dX6_scan_95 rfl (lv_at hl 4 rfl) ?_
              refine lv_iload hx hb dX6_scan_96 (lv_at hl 6 rfl) ?_
              refine lv_iload hx hb dX6_scan_98 (lv_at hl 1 rfl) ?_
              obtain ⟨r14, er14, h⟩ := cal_e h
              refine rCallSI C hd (c_X6_numberOf hE er14) kX6_42 rfl hl.1 rfl (Nat.le_of_ble_eq_true rfl) ⟨(Nat.le_of_ble_eq_true rfl), (Nat.le_of_ble_eq_true rfl)⟩ ⟨Nat.le_refl _, Nat.le_refl _⟩ dX6_scan_100 (fun H locs hd => ?_)
              refine lv_goto (tgt := 107) hx hb dX6_scan_103 (by decide) ?_
              exact w_X6_scan_107 C hr ih σ x3 x4 x5 r11 r12 r14 r12 h _ _ _ hd (lv_sub hl [3, 4, 5, 6, 7, 1, 0] rfl)
          · replace h := iteF c10 h
            obtain ⟨v15, ev15, h⟩ := bnd_e h
            refine lv_iinc (v := v15) (lv' := [(4, .int v15), (6, .int v8), (0, .ref (ga g 5)), (1, .ref (ga g 9)), (3, .int x3), (5, .int x5)]) hx hb dX6_scan_60 hl (k := 4) rfl ((ii_1 _).trans ev15.symm) (Nat.le_of_ble_eq_true rfl) rfl (fun ls hl => ?_)
            refine lv_goto (tgt := 124) hx hb dX6_scan_63 (by decide) ?_
            exact w_X6_scan_124 C hr ih σ x3 v15 x5 h _ _ _ hd (lv_sub hl [2, 3, 4, 0, 5] rfl)
noncomputable def f_X6_scan (F : Nat) (σ : St) (x2 : Int32) : Option St :=
  bnd (mn x2 2000) (fun v1 => bnd (ss σ 19 0) (fun t2 => f_X6_scan_18 F F t2 v1 0 0))
set_option maxRecDepth 100000 in
set_option maxHeartbeats 4000000 in
theorem c_X6_scan {l : Launch} {g : Gp} {X : va_W} (hE : E0 g) {F : Nat} {σ' : St} {σ : St} {x2 : Int32} (h : f_X6_scan F σ x2 = some σ') : Cv l g yX6_scan cX6_scan 9 7 [.ref (ga g 5), .ref (ga g 9), .int x2] (wD g σ ++ X) (wD g σ' ++ X) := by
  refine rHead hE (by decide +kernel) (Nat.le_of_ble_eq_true rfl) (fun p e s m below meth c C hr _ hd ls hl => ?_)
  have hx := C.1
  have hb := C.2.1
  have hl : lv_has ls 9 [(0, .ref (ga g 5)), (1, .ref (ga g 9)), (2, .int x2)] := hl
  generalize ([.ref (ga g 5), .ref (ga g 9), .int x2] : List Value).toArray = args at C ⊢
  have C : Cx g p s m args meth c cX6_scan 9 RX6 := C
  rw [f_X6_scan] at h
  refine lv_iload_n hx hb dX6_scan_0 rfl (lv_at hl 2 rfl) ?_
  refine lv_aload_n hx hb dX6_scan_1 rfl (lv_at hl 1 rfl) ?_
  refine len_wD_9 C hd dX6_scan_2 ?_
  refine rMin C hl.1 (mT 379 (by decide +kernel)) (mT 380 (by decide +kernel)) (mT 14 (by decide +kernel)) (mT 381 (by decide +kernel)) ⟨(Nat.le_of_ble_eq_true rfl), (Nat.le_of_ble_eq_true rfl)⟩ ⟨Nat.le_refl _, Nat.le_refl _⟩ dX6_scan_3 ?_
  obtain ⟨v1, ev1, h⟩ := bnd_e h
  refine rTop ev1 ?_
  refine lv_istore_n (lv' := [(3, .int v1), (0, .ref (ga g 5)), (1, .ref (ga g 9)), (2, .int x2)]) hx hb dX6_scan_6 rfl hl (Nat.le_of_ble_eq_true rfl) rfl (fun ls hl => ?_)
  refine lv_iconst (v := 0) hx hb dX6_scan_7 ic_0 ?_
  refine lv_istore (lv' := [(4, .int 0), (3, .int v1), (0, .ref (ga g 5)), (1, .ref (ga g 9)), (2, .int x2)]) hx hb dX6_scan_8 hl (Nat.le_of_ble_eq_true rfl) rfl (fun ls hl => ?_)
  refine lv_aload_n hx hb dX6_scan_10 rfl (lv_at hl 2 rfl) ?_
  refine lv_iconst (v := 0) hx hb dX6_scan_11 ic_0 ?_
  obtain ⟨t2, et2, h⟩ := bnd_e h
  refine pX6_9 C hd et2 dX6_scan_12 (fun H locs hd => ?_)
  refine lv_iconst (v := 0) hx hb dX6_scan_15 ic_0 ?_
  refine lv_istore (lv' := [(5, .int 0), (4, .int 0), (3, .int v1), (0, .ref (ga g 5)), (1, .ref (ga g 9)), (2, .int x2)]) hx hb dX6_scan_16 hl (Nat.le_of_ble_eq_true rfl) rfl (fun ls hl => ?_)
  exact w_X6_scan_18 C hr _ t2 v1 0 0 h _ _ _ hd (lv_sub hl [3, 4, 2, 1, 0] rfl)
end S
