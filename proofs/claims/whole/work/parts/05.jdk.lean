section S
variable {p : Program} {l : Launch} {e : Env} {s : State} {m : MethodId} {args : Array Value} {below : List Frame} {meth : Method} {c : Code} {g : Gp} {X : va_W}
noncomputable def f_J0_isLatin1_aae02 (F : Nat) (i : Nat) (σ : St) : Option Int32 :=
  if (1 : Int32) = 0 then (some 0) else (if (0 : Int32) = 0 then (some 1) else (some 0))
set_option maxRecDepth 100000 in
set_option maxHeartbeats 4000000 in
theorem c_J0_isLatin1_aae02 {l : Launch} {g : Gp} {X : va_W} (hE : E0 g) {i : Nat} (hi : i < 6) {F : Nat} {r' : Int32} {σ : St} (h : f_J0_isLatin1_aae02 F i σ = some r') : Ci l g yJ0_isLatin1_aae02 cJ0_isLatin1_aae02 1 (some .boolean) 0 [.ref (ga g (100 + i))] (wD g σ ++ X) r' (wD g σ ++ X) := by
  refine rHead hE (by decide +kernel) (Nat.le_of_ble_eq_true rfl) (fun p e s m below meth c C hr _ hd ls hl => ?_)
  have hx := C.1
  have hb := C.2.1
  have hl : lv_has ls 1 [(0, .ref (ga g (100 + i)))] := hl
  generalize ([.ref (ga g (100 + i))] : List Value).toArray = args at C ⊢
  have C : Cx g p s m args meth c cJ0_isLatin1_aae02 1 RJ0 := C
  rw [f_J0_isLatin1_aae02] at h
  refine rCS C hd (mT 412 (by decide +kernel)) dJ0_isLatin1_aae02_0 ?_
  refine lv_if_eq (tgt := 17) hx hb dJ0_isLatin1_aae02_3 (by decide) (fun c1 => ?_) (fun c1 => ?_)
  · replace h := iteT c1 h
    refine lv_iconst (v := 0) hx hb dJ0_isLatin1_aae02_17 ic_0 ?_
    exact rZretP C hr hd h (by decide) dJ0_isLatin1_aae02_18
  · replace h := iteF c1 h
    refine lv_aload_n hx hb dJ0_isLatin1_aae02_6 rfl (lv_at hl 0 rfl) ?_
    refine rStrC C hd hi (mT 1950 (by decide +kernel)) dJ0_isLatin1_aae02_7 ?_
    refine lv_if_ne (tgt := 17) hx hb dJ0_isLatin1_aae02_10 (by decide) (fun c2 => ?_) (fun c2 => ?_)
    · replace h := iteF c2 h
      refine lv_iconst (v := 0) hx hb dJ0_isLatin1_aae02_17 ic_0 ?_
      exact rZretP C hr hd h (by decide) dJ0_isLatin1_aae02_18
    · replace h := iteT c2 h
      refine lv_iconst (v := 1) hx hb dJ0_isLatin1_aae02_13 ic_1 ?_
      refine lv_goto (tgt := 18) hx hb dJ0_isLatin1_aae02_14 (by decide) ?_
      exact rZretP C hr hd h (by decide) dJ0_isLatin1_aae02_18
noncomputable def f_J1_charAt_3b067 (F : Nat) (i : Nat) (σ : St) (x1 : Int32) : Option Int32 :=
  cal (f_J0_checkIndex_df160 F σ x1 (Int32.ofNat (lenS.getD i 0))) (fun t1 => if inb x1 (lenS.getD i 0) = true then if idC (UInt32.toInt32 (Int32.toUInt32 (((bytS.getD i []).getD x1.toNatClampNeg 0) &&& 255) % 65536)) = true then some (UInt32.toInt32 (Int32.toUInt32 (((bytS.getD i []).getD x1.toNatClampNeg 0) &&& 255) % 65536)) else none else none)
set_option maxRecDepth 100000 in
set_option maxHeartbeats 4000000 in
theorem c_J1_charAt_3b067 {l : Launch} {g : Gp} {X : va_W} (hE : E0 g) {i : Nat} (hi : i < 6) {F : Nat} {r' : Int32} {σ : St} {x1 : Int32} (h : f_J1_charAt_3b067 F i σ x1 = some r') : Ci l g yJ1_charAt_3b067 cJ1_charAt_3b067 2 (some .char) 13 [.ref (ga g (110 + i)), .int x1] (wD g σ ++ X) r' (wD g σ ++ X) := by
  refine rHead hE (by decide +kernel) (Nat.le_of_ble_eq_true rfl) (fun p e s m below meth c C hr _ hd ls hl => ?_)
  have hx := C.1
  have hb := C.2.1
  have hl : lv_has ls 2 [(0, .ref (ga g (110 + i))), (1, .int x1)] := hl
  generalize ([.ref (ga g (110 + i)), .int x1] : List Value).toArray = args at C ⊢
  have C : Cx g p s m args meth c cJ1_charAt_3b067 2 RJ1 := C
  rw [f_J1_charAt_3b067] at h
  refine lv_iload_n hx hb dJ1_charAt_3b067_0 rfl (lv_at hl 1 rfl) ?_
  refine lv_aload_n hx hb dJ1_charAt_3b067_1 rfl (lv_at hl 0 rfl) ?_
  refine rStrLen C hd hi dJ1_charAt_3b067_2 ?_
  obtain ⟨t1, et1, h⟩ := cal_e h
  refine rCallSV C hd (c_J0_checkIndex_df160 hE et1) kJ1_9 rfl hl.1 rfl (Nat.le_of_ble_eq_true rfl) ⟨(Nat.le_of_ble_eq_true rfl), (Nat.le_of_ble_eq_true rfl)⟩ ⟨Nat.le_refl _, Nat.le_refl _⟩ dJ1_charAt_3b067_3 (fun H locs hd => ?_)
  refine lv_aload_n hx hb dJ1_charAt_3b067_6 rfl (lv_at hl 0 rfl) ?_
  refine lv_iload_n hx hb dJ1_charAt_3b067_7 rfl (lv_at hl 1 rfl) ?_
  obtain ⟨n2, h⟩ := chk h
  refine rStrLd C hd hi (inb_i n2) dJ1_charAt_3b067_8 ?_
  refine lv_sipush (v := 255) hx hb dJ1_charAt_3b067_9 si_255 ?_
  refine lv_iand hx hb dJ1_charAt_3b067_12 ?_
  refine lv_i2c hx hb dJ1_charAt_3b067_13 rfl ?_
  obtain ⟨n3, h⟩ := chk h
  exact rNretP C hr hd h (narC n3) dJ1_charAt_3b067_14
noncomputable def f_J0_charAt_5068e (F : Nat) (i : Nat) (σ : St) (x1 : Int32) : Option Int32 :=
  cal (f_J0_isLatin1_aae02 F i σ) (fun r1 => if r1 = 0 then (none) else (cal (f_J1_charAt_3b067 F i σ x1) (fun r3 => if idC r3 = true then some r3 else none)))
set_option maxRecDepth 100000 in
set_option maxHeartbeats 4000000 in
theorem c_J0_charAt_5068e {l : Launch} {g : Gp} {X : va_W} (hE : E0 g) {i : Nat} (hi : i < 6) {F : Nat} {r' : Int32} {σ : St} {x1 : Int32} (h : f_J0_charAt_5068e F i σ x1 = some r') : Ci l g yJ0_charAt_5068e cJ0_charAt_5068e 2 (some .char) 14 [.ref (ga g (100 + i)), .int x1] (wD g σ ++ X) r' (wD g σ ++ X) := by
  refine rHead hE (by decide +kernel) (Nat.le_of_ble_eq_true rfl) (fun p e s m below meth c C hr _ hd ls hl => ?_)
  have hx := C.1
  have hb := C.2.1
  have hl : lv_has ls 2 [(0, .ref (ga g (100 + i))), (1, .int x1)] := hl
  generalize ([.ref (ga g (100 + i)), .int x1] : List Value).toArray = args at C ⊢
  have C : Cx g p s m args meth c cJ0_charAt_5068e 2 RJ0 := C
  rw [f_J0_charAt_5068e] at h
  refine lv_aload_n hx hb dJ0_charAt_5068e_0 rfl (lv_at hl 0 rfl) ?_
  obtain ⟨r1, er1, h⟩ := cal_e h
  refine rCallSt C hd hi (c_J0_isLatin1_aae02 hE hi er1) kJ0_492 rfl rfl hl.1 rfl (Nat.le_of_ble_eq_true rfl) ⟨(Nat.le_of_ble_eq_true rfl), (Nat.le_of_ble_eq_true rfl)⟩ ⟨Nat.le_refl _, Nat.le_refl _⟩ dJ0_charAt_5068e_1 (fun H locs hd => ?_)
  refine lv_if_eq (tgt := 16) hx hb dJ0_charAt_5068e_4 (by decide) (fun c2 => ?_) (fun c2 => ?_)
  · replace h := iteT c2 h
    cases h
  · replace h := iteF c2 h
    refine lv_aload_n hx hb dJ0_charAt_5068e_7 rfl (lv_at hl 0 rfl) ?_
    refine rStrV C hd hi (mT 1951 (by decide +kernel)) dJ0_charAt_5068e_8 ?_
    refine lv_iload_n hx hb dJ0_charAt_5068e_11 rfl (lv_at hl 1 rfl) ?_
    obtain ⟨r3, er3, h⟩ := cal_e h
    refine rCallSI C hd (c_J1_charAt_3b067 hE hi er3) kJ0_495 rfl hl.1 rfl (Nat.le_of_ble_eq_true rfl) ⟨(Nat.le_of_ble_eq_true rfl), (Nat.le_of_ble_eq_true rfl)⟩ ⟨Nat.le_refl _, Nat.le_refl _⟩ dJ0_charAt_5068e_12 (fun H locs hd => ?_)
    obtain ⟨n4, h⟩ := chk h
    exact rNretP C hr hd h (narC n4) dJ0_charAt_5068e_15
noncomputable def f_J0_coder_7d493 (F : Nat) (i : Nat) (σ : St) : Option Int32 :=
  if (1 : Int32) = 0 then (if idB 1 = true then some 1 else none) else (if idB 0 = true then some 0 else none)
set_option maxRecDepth 100000 in
set_option maxHeartbeats 4000000 in
theorem c_J0_coder_7d493 {l : Launch} {g : Gp} {X : va_W} (hE : E0 g) {i : Nat} (hi : i < 6) {F : Nat} {r' : Int32} {σ : St} (h : f_J0_coder_7d493 F i σ = some r') : Ci l g yJ0_coder_7d493 cJ0_coder_7d493 1 (some .byte) 0 [.ref (ga g (100 + i))] (wD g σ ++ X) r' (wD g σ ++ X) := by
  refine rHead hE (by decide +kernel) (Nat.le_of_ble_eq_true rfl) (fun p e s m below meth c C hr _ hd ls hl => ?_)
  have hx := C.1
  have hb := C.2.1
  have hl : lv_has ls 1 [(0, .ref (ga g (100 + i)))] := hl
  generalize ([.ref (ga g (100 + i))] : List Value).toArray = args at C ⊢
  have C : Cx g p s m args meth c cJ0_coder_7d493 1 RJ0 := C
  rw [f_J0_coder_7d493] at h
  refine rCS C hd (mT 412 (by decide +kernel)) dJ0_coder_7d493_0 ?_
  refine lv_if_eq (tgt := 13) hx hb dJ0_coder_7d493_3 (by decide) (fun c1 => ?_) (fun c1 => ?_)
  · replace h := iteT c1 h
    refine lv_iconst (v := 1) hx hb dJ0_coder_7d493_13 ic_1 ?_
    obtain ⟨n2, h⟩ := chk h
    exact rNretP C hr hd h (narB n2) dJ0_coder_7d493_14
  · replace h := iteF c1 h
    refine lv_aload_n hx hb dJ0_coder_7d493_6 rfl (lv_at hl 0 rfl) ?_
    refine rStrC C hd hi (mT 1950 (by decide +kernel)) dJ0_coder_7d493_7 ?_
    refine lv_goto (tgt := 14) hx hb dJ0_coder_7d493_10 (by decide) ?_
    obtain ⟨n3, h⟩ := chk h
    exact rNretP C hr hd h (narB n3) dJ0_coder_7d493_14
noncomputable def f_J0_length_8abf5 (F : Nat) (i : Nat) (σ : St) : Option Int32 :=
  cal (f_J0_coder_7d493 F i σ) (fun r1 => some ((Int32.ofNat (lenS.getD i 0)) >>> (r1 &&& 31)))
set_option maxRecDepth 100000 in
set_option maxHeartbeats 4000000 in
theorem c_J0_length_8abf5 {l : Launch} {g : Gp} {X : va_W} (hE : E0 g) {i : Nat} (hi : i < 6) {F : Nat} {r' : Int32} {σ : St} (h : f_J0_length_8abf5 F i σ = some r') : Ci l g yJ0_length_8abf5 cJ0_length_8abf5 1 (some .int) 1 [.ref (ga g (100 + i))] (wD g σ ++ X) r' (wD g σ ++ X) := by
  refine rHead hE (by decide +kernel) (Nat.le_of_ble_eq_true rfl) (fun p e s m below meth c C hr _ hd ls hl => ?_)
  have hx := C.1
  have hb := C.2.1
  have hl : lv_has ls 1 [(0, .ref (ga g (100 + i)))] := hl
  generalize ([.ref (ga g (100 + i))] : List Value).toArray = args at C ⊢
  have C : Cx g p s m args meth c cJ0_length_8abf5 1 RJ0 := C
  rw [f_J0_length_8abf5] at h
  refine lv_aload_n hx hb dJ0_length_8abf5_0 rfl (lv_at hl 0 rfl) ?_
  refine rStrV C hd hi (mT 1951 (by decide +kernel)) dJ0_length_8abf5_1 ?_
  refine rStrLen C hd hi dJ0_length_8abf5_4 ?_
  refine lv_aload_n hx hb dJ0_length_8abf5_5 rfl (lv_at hl 0 rfl) ?_
  obtain ⟨r1, er1, h⟩ := cal_e h
  refine rCallSt C hd hi (c_J0_coder_7d493 hE hi er1) kJ0_335 rfl rfl hl.1 rfl (Nat.le_of_ble_eq_true rfl) ⟨(Nat.le_of_ble_eq_true rfl), (Nat.le_of_ble_eq_true rfl)⟩ ⟨Nat.le_refl _, Nat.le_refl _⟩ dJ0_length_8abf5_6 (fun H locs hd => ?_)
  refine lv_ishr hx hb dJ0_length_8abf5_9 ?_
  exact rIretP C hr hd h dJ0_length_8abf5_10
noncomputable def f_J1_canEncode_9a6ad (F : Nat) (σ : St) (x0 : Int32) : Option Int32 :=
  if x0 < 0 then (some 0) else (if 255 < x0 then (some 0) else (some 1))
set_option maxRecDepth 100000 in
set_option maxHeartbeats 4000000 in
theorem c_J1_canEncode_9a6ad {l : Launch} {g : Gp} {X : va_W} (hE : E0 g) {F : Nat} {r' : Int32} {σ : St} {x0 : Int32} (h : f_J1_canEncode_9a6ad F σ x0 = some r') : Ci l g yJ1_canEncode_9a6ad cJ1_canEncode_9a6ad 1 (some .boolean) 0 [.int x0] (wD g σ ++ X) r' (wD g σ ++ X) := by
  refine rHead hE (by decide +kernel) (Nat.le_of_ble_eq_true rfl) (fun p e s m below meth c C hr _ hd ls hl => ?_)
  have hx := C.1
  have hb := C.2.1
  have hl : lv_has ls 1 [(0, .int x0)] := hl
  generalize ([.int x0] : List Value).toArray = args at C ⊢
  have C : Cx g p s m args meth c cJ1_canEncode_9a6ad 1 RJ1 := C
  rw [f_J1_canEncode_9a6ad] at h
  refine lv_iload_n hx hb dJ1_canEncode_9a6ad_0 rfl (lv_at hl 0 rfl) ?_
  refine lv_if_lt (tgt := 15) hx hb dJ1_canEncode_9a6ad_1 (by decide) (fun c1 => ?_) (fun c1 => ?_)
  · replace h := iteT c1 h
    refine lv_iconst (v := 0) hx hb dJ1_canEncode_9a6ad_15 ic_0 ?_
    exact rZretP C hr hd h (by decide) dJ1_canEncode_9a6ad_16
  · replace h := iteF c1 h
    refine lv_iload_n hx hb dJ1_canEncode_9a6ad_4 rfl (lv_at hl 0 rfl) ?_
    refine lv_sipush (v := 255) hx hb dJ1_canEncode_9a6ad_5 si_255 ?_
    refine lv_icmp_gt (tgt := 15) hx hb dJ1_canEncode_9a6ad_8 (by decide) (fun c2 => ?_) (fun c2 => ?_)
    · replace h := iteT c2 h
      refine lv_iconst (v := 0) hx hb dJ1_canEncode_9a6ad_15 ic_0 ?_
      exact rZretP C hr hd h (by decide) dJ1_canEncode_9a6ad_16
    · replace h := iteF c2 h
      refine lv_iconst (v := 1) hx hb dJ1_canEncode_9a6ad_11 ic_1 ?_
      refine lv_goto (tgt := 16) hx hb dJ1_canEncode_9a6ad_12 (by decide) ?_
      exact rZretP C hr hd h (by decide) dJ1_canEncode_9a6ad_16
noncomputable def f_J1_indexOfChar_4cfef_7 (F : Nat) (i : Nat) : Nat → St → Int32 → Int32 → Int32 → Option Int32
  | 0, _, _, _, _ => none
  | n + 1, σ, x3, x4, x5 => if x3 ≤ x5 then (some (-1 : Int32)) else (if inb x5 (lenS.getD i 0) = true then if ((bytS.getD i []).getD x5.toNatClampNeg 0) = x4 then (some x5) else (bnd (x5 + 1) (fun v4 => f_J1_indexOfChar_4cfef_7 F i n σ x3 x4 v4)) else none)
set_option maxRecDepth 100000 in
set_option maxHeartbeats 4000000 in
theorem w_J1_indexOfChar_4cfef_7 {F : Nat} {r' : Int32}  (C : Cx g p s m args meth c cJ1_indexOfChar_4cfef 6 RJ1) (hr : meth.sig.returnType = some .int) {i : Nat} (hi : i < 6) :
    (∀ (n : Nat) (σ : St) (x3 : Int32) (x4 : Int32) (x5 : Int32), f_J1_indexOfChar_4cfef_7 F i n σ x3 x4 x5 = some r' → ∀ (H : Heap) (locs : List Loc) (ls : Array Slot), Dy g (wD g σ ++ X) s H locs → lv_has ls 6 [(0, .ref (ga g (110 + i))), (3, .int x3), (4, .int x4), (5, .int x5)] → W p l e (rmD 0) s m args below meth c H locs 0 0 (QI g below args s (wD g σ ++ X) r') (F0 m 7 ls [])) := by
  have hx := C.1
  have hb := C.2.1
  have hE := C.2.2.2.2.2.2.2.2
  intro n
  induction n with
  | zero =>
    intro σ x3 x4 x5 h
    cases h
  | succ n ih =>
    intro σ x3 x4 x5 h H locs ls hd hl
    rw [f_J1_indexOfChar_4cfef_7] at h
    refine lv_iload hx hb dJ1_indexOfChar_4cfef_7 (lv_at hl 3 rfl) ?_
    refine lv_iload_n hx hb dJ1_indexOfChar_4cfef_9 rfl (lv_at hl 1 rfl) ?_
    refine lv_icmp_ge (tgt := 31) hx hb dJ1_indexOfChar_4cfef_10 (by decide) (fun c1 => ?_) (fun c1 => ?_)
    · replace h := iteT c1 h
      refine lv_iconst (v := (-1 : Int32)) hx hb dJ1_indexOfChar_4cfef_31 ic_m1 ?_
      exact rIretP C hr hd h dJ1_indexOfChar_4cfef_32
    · replace h := iteF c1 h
      refine lv_aload_n hx hb dJ1_indexOfChar_4cfef_13 rfl (lv_at hl 0 rfl) ?_
      refine lv_iload hx hb dJ1_indexOfChar_4cfef_14 (lv_at hl 3 rfl) ?_
      obtain ⟨n2, h⟩ := chk h
      refine rStrLd C hd hi (inb_i n2) dJ1_indexOfChar_4cfef_16 ?_
      refine lv_iload hx hb dJ1_indexOfChar_4cfef_17 (lv_at hl 2 rfl) ?_
      refine lv_icmp_ne (tgt := 25) hx hb dJ1_indexOfChar_4cfef_19 (by decide) (fun c3 => ?_) (fun c3 => ?_)
      · replace h := iteF c3 h
        obtain ⟨v4, ev4, h⟩ := bnd_e h
        refine lv_iinc (v := v4) (lv' := [(5, .int v4), (0, .ref (ga g (110 + i))), (3, .int x3), (4, .int x4)]) hx hb dJ1_indexOfChar_4cfef_25 hl (k := 3) rfl ((ii_1 _).trans ev4.symm) (Nat.le_of_ble_eq_true rfl) rfl (fun ls hl => ?_)
        refine lv_goto (tgt := 7) hx hb dJ1_indexOfChar_4cfef_28 (by decide) ?_
        exact ih σ x3 x4 v4 h _ _ _ hd (lv_sub hl [1, 2, 3, 0] rfl)
      · replace h := iteT c3 h
        refine lv_iload hx hb dJ1_indexOfChar_4cfef_22 (lv_at hl 3 rfl) ?_
        exact rIretP C hr hd h dJ1_indexOfChar_4cfef_24
noncomputable def f_J1_indexOfChar_4cfef (F : Nat) (i : Nat) (σ : St) (x1 : Int32) (x2 : Int32) (x3 : Int32) : Option Int32 :=
  bnd (Int8.toInt32 (Int32.toInt8 x1)) (fun v1 => f_J1_indexOfChar_4cfef_7 F i F σ x3 v1 x2)
set_option maxRecDepth 100000 in
set_option maxHeartbeats 4000000 in
theorem c_J1_indexOfChar_4cfef {l : Launch} {g : Gp} {X : va_W} (hE : E0 g) {i : Nat} (hi : i < 6) {F : Nat} {r' : Int32} {σ : St} {x1 : Int32} {x2 : Int32} {x3 : Int32} (h : f_J1_indexOfChar_4cfef F i σ x1 x2 x3 = some r') : Ci l g yJ1_indexOfChar_4cfef cJ1_indexOfChar_4cfef 6 (some .int) 0 [.ref (ga g (110 + i)), .int x1, .int x2, .int x3] (wD g σ ++ X) r' (wD g σ ++ X) := by
  refine rHead hE (by decide +kernel) (Nat.le_of_ble_eq_true rfl) (fun p e s m below meth c C hr _ hd ls hl => ?_)
  have hx := C.1
  have hb := C.2.1
  have hl : lv_has ls 6 [(0, .ref (ga g (110 + i))), (1, .int x1), (2, .int x2), (3, .int x3)] := hl
  generalize ([.ref (ga g (110 + i)), .int x1, .int x2, .int x3] : List Value).toArray = args at C ⊢
  have C : Cx g p s m args meth c cJ1_indexOfChar_4cfef 6 RJ1 := C
  rw [f_J1_indexOfChar_4cfef] at h
  refine lv_iload_n hx hb dJ1_indexOfChar_4cfef_0 rfl (lv_at hl 1 rfl) ?_
  refine lv_i2b hx hb dJ1_indexOfChar_4cfef_1 rfl ?_
  obtain ⟨v1, ev1, h⟩ := bnd_e h
  refine rTop ev1 ?_
  refine lv_istore (lv' := [(4, .int v1), (0, .ref (ga g (110 + i))), (1, .int x1), (2, .int x2), (3, .int x3)]) hx hb dJ1_indexOfChar_4cfef_2 hl (Nat.le_of_ble_eq_true rfl) rfl (fun ls hl => ?_)
  refine lv_iload_n hx hb dJ1_indexOfChar_4cfef_4 rfl (lv_at hl 3 rfl) ?_
  refine lv_istore (lv' := [(5, .int x2), (4, .int v1), (0, .ref (ga g (110 + i))), (1, .int x1), (2, .int x2), (3, .int x3)]) hx hb dJ1_indexOfChar_4cfef_5 hl (Nat.le_of_ble_eq_true rfl) rfl (fun ls hl => ?_)
  exact w_J1_indexOfChar_4cfef_7 C hr hi _ σ x3 v1 x2 h _ _ _ hd (lv_sub hl [2, 5, 1, 0] rfl)
noncomputable def f_J1_indexOf_4cfef (F : Nat) (i : Nat) (σ : St) (x1 : Int32) (x2 : Int32) (x3 : Int32) : Option Int32 :=
  cal (f_J1_canEncode_9a6ad F σ x1) (fun r1 => if r1 = 0 then (some (-1 : Int32)) else (bnd (mx x2 0) (fun v3 => bnd (mn x3 (Int32.ofNat (lenS.getD i 0))) (fun v4 => if v3 < v4 then (cal (f_J1_indexOfChar_4cfef F i σ x1 v3 v4) (fun r6 => some r6)) else (some (-1 : Int32))))))
set_option maxRecDepth 100000 in
set_option maxHeartbeats 4000000 in
theorem c_J1_indexOf_4cfef {l : Launch} {g : Gp} {X : va_W} (hE : E0 g) {i : Nat} (hi : i < 6) {F : Nat} {r' : Int32} {σ : St} {x1 : Int32} {x2 : Int32} {x3 : Int32} (h : f_J1_indexOf_4cfef F i σ x1 x2 x3 = some r') : Ci l g yJ1_indexOf_4cfef cJ1_indexOf_4cfef 4 (some .int) 1 [.ref (ga g (110 + i)), .int x1, .int x2, .int x3] (wD g σ ++ X) r' (wD g σ ++ X) := by
  refine rHead hE (by decide +kernel) (Nat.le_of_ble_eq_true rfl) (fun p e s m below meth c C hr _ hd ls hl => ?_)
  have hx := C.1
  have hb := C.2.1
  have hl : lv_has ls 4 [(0, .ref (ga g (110 + i))), (1, .int x1), (2, .int x2), (3, .int x3)] := hl
  generalize ([.ref (ga g (110 + i)), .int x1, .int x2, .int x3] : List Value).toArray = args at C ⊢
  have C : Cx g p s m args meth c cJ1_indexOf_4cfef 4 RJ1 := C
  rw [f_J1_indexOf_4cfef] at h
  refine lv_iload_n hx hb dJ1_indexOf_4cfef_0 rfl (lv_at hl 1 rfl) ?_
  obtain ⟨r1, er1, h⟩ := cal_e h
  refine rCallSI C hd (c_J1_canEncode_9a6ad hE er1) kJ1_88 rfl hl.1 rfl (Nat.le_of_ble_eq_true rfl) ⟨(Nat.le_of_ble_eq_true rfl), (Nat.le_of_ble_eq_true rfl)⟩ ⟨Nat.le_refl _, Nat.le_refl _⟩ dJ1_indexOf_4cfef_1 (fun H locs hd => ?_)
  refine lv_if_ne (tgt := 9) hx hb dJ1_indexOf_4cfef_4 (by decide) (fun c2 => ?_) (fun c2 => ?_)
  · replace h := iteF c2 h
    refine lv_iload_n hx hb dJ1_indexOf_4cfef_9 rfl (lv_at hl 2 rfl) ?_
    refine lv_iconst (v := 0) hx hb dJ1_indexOf_4cfef_10 ic_0 ?_
    refine rMax C hl.1 (mT 466 (by decide +kernel)) (mT 467 (by decide +kernel)) (mT 14 (by decide +kernel)) (mT 468 (by decide +kernel)) ⟨(Nat.le_of_ble_eq_true rfl), (Nat.le_of_ble_eq_true rfl)⟩ ⟨Nat.le_refl _, Nat.le_refl _⟩ dJ1_indexOf_4cfef_11 ?_
    obtain ⟨v3, ev3, h⟩ := bnd_e h
    refine rTop ev3 ?_
    refine lv_istore_n (lv' := [(2, .int v3), (0, .ref (ga g (110 + i))), (1, .int x1), (3, .int x3)]) hx hb dJ1_indexOf_4cfef_14 rfl hl (Nat.le_of_ble_eq_true rfl) rfl (fun ls hl => ?_)
    refine lv_iload_n hx hb dJ1_indexOf_4cfef_15 rfl (lv_at hl 3 rfl) ?_
    refine lv_aload_n hx hb dJ1_indexOf_4cfef_16 rfl (lv_at hl 1 rfl) ?_
    refine rStrLen C hd hi dJ1_indexOf_4cfef_17 ?_
    refine rMin C hl.1 (mT 469 (by decide +kernel)) (mT 380 (by decide +kernel)) (mT 14 (by decide +kernel)) (mT 381 (by decide +kernel)) ⟨(Nat.le_of_ble_eq_true rfl), (Nat.le_of_ble_eq_true rfl)⟩ ⟨Nat.le_refl _, Nat.le_refl _⟩ dJ1_indexOf_4cfef_18 ?_
    obtain ⟨v4, ev4, h⟩ := bnd_e h
    refine rTop ev4 ?_
    refine lv_istore_n (lv' := [(3, .int v4), (2, .int v3), (0, .ref (ga g (110 + i))), (1, .int x1)]) hx hb dJ1_indexOf_4cfef_21 rfl hl (Nat.le_of_ble_eq_true rfl) rfl (fun ls hl => ?_)
    refine lv_iload_n hx hb dJ1_indexOf_4cfef_22 rfl (lv_at hl 1 rfl) ?_
    refine lv_iload_n hx hb dJ1_indexOf_4cfef_23 rfl (lv_at hl 0 rfl) ?_
    refine lv_icmp_lt (tgt := 29) hx hb dJ1_indexOf_4cfef_24 (by decide) (fun c5 => ?_) (fun c5 => ?_)
    · replace h := iteT c5 h
      refine lv_aload_n hx hb dJ1_indexOf_4cfef_29 rfl (lv_at hl 2 rfl) ?_
      refine lv_iload_n hx hb dJ1_indexOf_4cfef_30 rfl (lv_at hl 3 rfl) ?_
      refine lv_iload_n hx hb dJ1_indexOf_4cfef_31 rfl (lv_at hl 1 rfl) ?_
      refine lv_iload_n hx hb dJ1_indexOf_4cfef_32 rfl (lv_at hl 0 rfl) ?_
      obtain ⟨r6, er6, h⟩ := cal_e h
      refine rCallSI C hd (c_J1_indexOfChar_4cfef hE hi er6) kJ1_95 rfl hl.1 rfl (Nat.le_of_ble_eq_true rfl) ⟨(Nat.le_of_ble_eq_true rfl), (Nat.le_of_ble_eq_true rfl)⟩ ⟨Nat.le_refl _, Nat.le_refl _⟩ dJ1_indexOf_4cfef_33 (fun H locs hd => ?_)
      exact rIretP C hr hd h dJ1_indexOf_4cfef_36
    · replace h := iteF c5 h
      refine lv_iconst (v := (-1 : Int32)) hx hb dJ1_indexOf_4cfef_27 ic_m1 ?_
      exact rIretP C hr hd h dJ1_indexOf_4cfef_28
  · replace h := iteT c2 h
    refine lv_iconst (v := (-1 : Int32)) hx hb dJ1_indexOf_4cfef_7 ic_m1 ?_
    exact rIretP C hr hd h dJ1_indexOf_4cfef_8
noncomputable def f_J0_indexOf_7cf53 (F : Nat) (i : Nat) (σ : St) (x1 : Int32) (x2 : Int32) : Option Int32 :=
  cal (f_J0_isLatin1_aae02 F i σ) (fun r1 => if r1 = 0 then (none) else (cal (f_J0_length_8abf5 F i σ) (fun r4 => cal (f_J1_indexOf_4cfef F i σ x1 x2 r4) (fun r5 => some r5))))
set_option maxRecDepth 100000 in
set_option maxHeartbeats 4000000 in
theorem c_J0_indexOf_7cf53 {l : Launch} {g : Gp} {X : va_W} (hE : E0 g) {i : Nat} (hi : i < 6) {F : Nat} {r' : Int32} {σ : St} {x1 : Int32} {x2 : Int32} (h : f_J0_indexOf_7cf53 F i σ x1 x2 = some r') : Ci l g yJ0_indexOf_7cf53 cJ0_indexOf_7cf53 3 (some .int) 12 [.ref (ga g (100 + i)), .int x1, .int x2] (wD g σ ++ X) r' (wD g σ ++ X) := by
  refine rHead hE (by decide +kernel) (Nat.le_of_ble_eq_true rfl) (fun p e s m below meth c C hr _ hd ls hl => ?_)
  have hx := C.1
  have hb := C.2.1
  have hl : lv_has ls 3 [(0, .ref (ga g (100 + i))), (1, .int x1), (2, .int x2)] := hl
  generalize ([.ref (ga g (100 + i)), .int x1, .int x2] : List Value).toArray = args at C ⊢
  have C : Cx g p s m args meth c cJ0_indexOf_7cf53 3 RJ0 := C
  rw [f_J0_indexOf_7cf53] at h
  refine lv_aload_n hx hb dJ0_indexOf_7cf53_0 rfl (lv_at hl 0 rfl) ?_
  obtain ⟨r1, er1, h⟩ := cal_e h
  refine rCallSt C hd hi (c_J0_isLatin1_aae02 hE hi er1) kJ0_492 rfl rfl hl.1 rfl (Nat.le_of_ble_eq_true rfl) ⟨(Nat.le_of_ble_eq_true rfl), (Nat.le_of_ble_eq_true rfl)⟩ ⟨Nat.le_refl _, Nat.le_refl _⟩ dJ0_indexOf_7cf53_1 (fun H locs hd => ?_)
  refine lv_if_eq (tgt := 23) hx hb dJ0_indexOf_7cf53_4 (by decide) (fun c2 => ?_) (fun c2 => ?_)
  · replace h := iteT c2 h
    cases h
  · replace h := iteF c2 h
    refine lv_aload_n hx hb dJ0_indexOf_7cf53_7 rfl (lv_at hl 0 rfl) ?_
    refine rStrV C hd hi (mT 1951 (by decide +kernel)) dJ0_indexOf_7cf53_8 ?_
    refine lv_iload_n hx hb dJ0_indexOf_7cf53_11 rfl (lv_at hl 1 rfl) ?_
    refine lv_iload_n hx hb dJ0_indexOf_7cf53_12 rfl (lv_at hl 2 rfl) ?_
    refine lv_aload_n hx hb dJ0_indexOf_7cf53_13 rfl (lv_at hl 0 rfl) ?_
    obtain ⟨r4, er4, h⟩ := cal_e h
    refine rCallSt C hd hi (c_J0_length_8abf5 hE hi er4) kJ0_505 rfl rfl hl.1 rfl (Nat.le_of_ble_eq_true rfl) ⟨(Nat.le_of_ble_eq_true rfl), (Nat.le_of_ble_eq_true rfl)⟩ ⟨Nat.le_refl _, Nat.le_refl _⟩ dJ0_indexOf_7cf53_14 (fun H locs hd => ?_)
    obtain ⟨r5, er5, h⟩ := cal_e h
    refine rCallSI C hd (c_J1_indexOf_4cfef hE hi er5) kJ0_637 rfl hl.1 rfl (Nat.le_of_ble_eq_true rfl) ⟨(Nat.le_of_ble_eq_true rfl), (Nat.le_of_ble_eq_true rfl)⟩ ⟨Nat.le_refl _, Nat.le_refl _⟩ dJ0_indexOf_7cf53_17 (fun H locs hd => ?_)
    refine lv_goto (tgt := 36) hx hb dJ0_indexOf_7cf53_20 (by decide) ?_
    exact rIretP C hr hd h dJ0_indexOf_7cf53_36
noncomputable def f_J0_indexOf_0f7a4 (F : Nat) (i : Nat) (σ : St) (x1 : Int32) : Option Int32 :=
  cal (f_J0_indexOf_7cf53 F i σ x1 0) (fun r1 => some r1)
set_option maxRecDepth 100000 in
set_option maxHeartbeats 4000000 in
theorem c_J0_indexOf_0f7a4 {l : Launch} {g : Gp} {X : va_W} (hE : E0 g) {i : Nat} (hi : i < 6) {F : Nat} {r' : Int32} {σ : St} {x1 : Int32} (h : f_J0_indexOf_0f7a4 F i σ x1 = some r') : Ci l g yJ0_indexOf_0f7a4 cJ0_indexOf_0f7a4 2 (some .int) 13 [.ref (ga g (100 + i)), .int x1] (wD g σ ++ X) r' (wD g σ ++ X) := by
  refine rHead hE (by decide +kernel) (Nat.le_of_ble_eq_true rfl) (fun p e s m below meth c C hr _ hd ls hl => ?_)
  have hx := C.1
  have hb := C.2.1
  have hl : lv_has ls 2 [(0, .ref (ga g (100 + i))), (1, .int x1)] := hl
  generalize ([.ref (ga g (100 + i)), .int x1] : List Value).toArray = args at C ⊢
  have C : Cx g p s m args meth c cJ0_indexOf_0f7a4 2 RJ0 := C
  rw [f_J0_indexOf_0f7a4] at h
  refine lv_aload_n hx hb dJ0_indexOf_0f7a4_0 rfl (lv_at hl 0 rfl) ?_
  refine lv_iload_n hx hb dJ0_indexOf_0f7a4_1 rfl (lv_at hl 1 rfl) ?_
  refine lv_iconst (v := 0) hx hb dJ0_indexOf_0f7a4_2 ic_0 ?_
  obtain ⟨r1, er1, h⟩ := cal_e h
  refine rCallSt C hd hi (c_J0_indexOf_7cf53 hE hi er1) kJ0_633 rfl rfl hl.1 rfl (Nat.le_of_ble_eq_true rfl) ⟨(Nat.le_of_ble_eq_true rfl), (Nat.le_of_ble_eq_true rfl)⟩ ⟨Nat.le_refl _, Nat.le_refl _⟩ dJ0_indexOf_0f7a4_3 (fun H locs hd => ?_)
  exact rIretP C hr hd h dJ0_indexOf_0f7a4_6
noncomputable def f_J6_bitCount_0f7a4 (F : Nat) (σ : St) (x0 : Int32) : Option Int32 :=
  bnd (x0 - ((UInt32.toInt32 (Int32.toUInt32 x0 >>> (Int32.toUInt32 1 &&& Int32.toUInt32 31))) &&& 1431655765)) (fun v1 => bnd ((v1 &&& 858993459) + ((UInt32.toInt32 (Int32.toUInt32 v1 >>> (Int32.toUInt32 2 &&& Int32.toUInt32 31))) &&& 858993459)) (fun v2 => bnd ((v2 + (UInt32.toInt32 (Int32.toUInt32 v2 >>> (Int32.toUInt32 4 &&& Int32.toUInt32 31)))) &&& 252645135) (fun v3 => bnd (v3 + (UInt32.toInt32 (Int32.toUInt32 v3 >>> (Int32.toUInt32 8 &&& Int32.toUInt32 31)))) (fun v4 => bnd (v4 + (UInt32.toInt32 (Int32.toUInt32 v4 >>> (Int32.toUInt32 16 &&& Int32.toUInt32 31)))) (fun v5 => some (v5 &&& 63))))))
set_option maxRecDepth 100000 in
set_option maxHeartbeats 4000000 in
theorem c_J6_bitCount_0f7a4 {l : Launch} {g : Gp} {X : va_W} (hE : E0 g) {F : Nat} {r' : Int32} {σ : St} {x0 : Int32} (h : f_J6_bitCount_0f7a4 F σ x0 = some r') : Ci l g yJ6_bitCount_0f7a4 cJ6_bitCount_0f7a4 1 (some .int) 0 [.int x0] (wD g σ ++ X) r' (wD g σ ++ X) := by
  refine rHead hE (by decide +kernel) (Nat.le_of_ble_eq_true rfl) (fun p e s m below meth c C hr _ hd ls hl => ?_)
  have hx := C.1
  have hb := C.2.1
  have hl : lv_has ls 1 [(0, .int x0)] := hl
  generalize ([.int x0] : List Value).toArray = args at C ⊢
  have C : Cx g p s m args meth c cJ6_bitCount_0f7a4 1 RJ6 := C
  rw [f_J6_bitCount_0f7a4] at h
  refine lv_iload_n hx hb dJ6_bitCount_0f7a4_0 rfl (lv_at hl 0 rfl) ?_
  refine lv_iload_n hx hb dJ6_bitCount_0f7a4_1 rfl (lv_at hl 0 rfl) ?_
  refine lv_iconst (v := 1) hx hb dJ6_bitCount_0f7a4_2 ic_1 ?_
  refine lv_iushr hx hb dJ6_bitCount_0f7a4_3 rfl ?_
  refine rLdcw C (v := 1431655765) (mT 1301 (by decide +kernel)) dJ6_bitCount_0f7a4_4 ?_
  refine lv_iand hx hb dJ6_bitCount_0f7a4_7 ?_
  refine lv_isub hx hb dJ6_bitCount_0f7a4_8 ?_
  obtain ⟨v1, ev1, h⟩ := bnd_e h
  refine rTop ev1 ?_
  refine lv_istore_n (lv' := [(0, .int v1)]) hx hb dJ6_bitCount_0f7a4_9 rfl hl (Nat.le_of_ble_eq_true rfl) rfl (fun ls hl => ?_)
  refine lv_iload_n hx hb dJ6_bitCount_0f7a4_10 rfl (lv_at hl 0 rfl) ?_
  refine rLdcw C (v := 858993459) (mT 1302 (by decide +kernel)) dJ6_bitCount_0f7a4_11 ?_
  refine lv_iand hx hb dJ6_bitCount_0f7a4_14 ?_
  refine lv_iload_n hx hb dJ6_bitCount_0f7a4_15 rfl (lv_at hl 0 rfl) ?_
  refine lv_iconst (v := 2) hx hb dJ6_bitCount_0f7a4_16 ic_2 ?_
  refine lv_iushr hx hb dJ6_bitCount_0f7a4_17 rfl ?_
  refine rLdcw C (v := 858993459) (mT 1302 (by decide +kernel)) dJ6_bitCount_0f7a4_18 ?_
  refine lv_iand hx hb dJ6_bitCount_0f7a4_21 ?_
  refine lv_iadd hx hb dJ6_bitCount_0f7a4_22 ?_
  obtain ⟨v2, ev2, h⟩ := bnd_e h
  refine rTop ev2 ?_
  refine lv_istore_n (lv' := [(0, .int v2)]) hx hb dJ6_bitCount_0f7a4_23 rfl hl (Nat.le_of_ble_eq_true rfl) rfl (fun ls hl => ?_)
  refine lv_iload_n hx hb dJ6_bitCount_0f7a4_24 rfl (lv_at hl 0 rfl) ?_
  refine lv_iload_n hx hb dJ6_bitCount_0f7a4_25 rfl (lv_at hl 0 rfl) ?_
  refine lv_iconst (v := 4) hx hb dJ6_bitCount_0f7a4_26 ic_4 ?_
  refine lv_iushr hx hb dJ6_bitCount_0f7a4_27 rfl ?_
  refine lv_iadd hx hb dJ6_bitCount_0f7a4_28 ?_
  refine rLdcw C (v := 252645135) (mT 1303 (by decide +kernel)) dJ6_bitCount_0f7a4_29 ?_
  refine lv_iand hx hb dJ6_bitCount_0f7a4_32 ?_
  obtain ⟨v3, ev3, h⟩ := bnd_e h
  refine rTop ev3 ?_
  refine lv_istore_n (lv' := [(0, .int v3)]) hx hb dJ6_bitCount_0f7a4_33 rfl hl (Nat.le_of_ble_eq_true rfl) rfl (fun ls hl => ?_)
  refine lv_iload_n hx hb dJ6_bitCount_0f7a4_34 rfl (lv_at hl 0 rfl) ?_
  refine lv_iload_n hx hb dJ6_bitCount_0f7a4_35 rfl (lv_at hl 0 rfl) ?_
  refine lv_bipush (v := 8) hx hb dJ6_bitCount_0f7a4_36 bi_8 ?_
  refine lv_iushr hx hb dJ6_bitCount_0f7a4_38 rfl ?_
  refine lv_iadd hx hb dJ6_bitCount_0f7a4_39 ?_
  obtain ⟨v4, ev4, h⟩ := bnd_e h
  refine rTop ev4 ?_
  refine lv_istore_n (lv' := [(0, .int v4)]) hx hb dJ6_bitCount_0f7a4_40 rfl hl (Nat.le_of_ble_eq_true rfl) rfl (fun ls hl => ?_)
  refine lv_iload_n hx hb dJ6_bitCount_0f7a4_41 rfl (lv_at hl 0 rfl) ?_
  refine lv_iload_n hx hb dJ6_bitCount_0f7a4_42 rfl (lv_at hl 0 rfl) ?_
  refine lv_bipush (v := 16) hx hb dJ6_bitCount_0f7a4_43 bi_16 ?_
  refine lv_iushr hx hb dJ6_bitCount_0f7a4_45 rfl ?_
  refine lv_iadd hx hb dJ6_bitCount_0f7a4_46 ?_
  obtain ⟨v5, ev5, h⟩ := bnd_e h
  refine rTop ev5 ?_
  refine lv_istore_n (lv' := [(0, .int v5)]) hx hb dJ6_bitCount_0f7a4_47 rfl hl (Nat.le_of_ble_eq_true rfl) rfl (fun ls hl => ?_)
  refine lv_iload_n hx hb dJ6_bitCount_0f7a4_48 rfl (lv_at hl 0 rfl) ?_
  refine lv_bipush (v := 63) hx hb dJ6_bitCount_0f7a4_49 bi_63 ?_
  refine lv_iand hx hb dJ6_bitCount_0f7a4_51 ?_
  exact rIretP C hr hd h dJ6_bitCount_0f7a4_52
noncomputable def f_J7_fill_031fb_5 (F : Nat) : Nat → St → Int32 → Int32 → Int32 → Option St
  | 0, _, _, _, _ => none
  | n + 1, σ, x1, x2, x3 => if x3 ≤ x2 then (some σ) else (if inb x2 241 = true then bnd (sr σ 10 x2.toNatClampNeg (vp_nar .byte x1)) (fun t3 => bnd (x2 + 1) (fun v4 => f_J7_fill_031fb_5 F n t3 x1 v4 x3)) else none)
set_option maxRecDepth 100000 in
set_option maxHeartbeats 4000000 in
theorem w_J7_fill_031fb_5 {F : Nat} {σ' : St}  (C : Cx g p s m args meth c cJ7_fill_031fb 4 RJ7) (hr : meth.sig.returnType = none) :
    (∀ (n : Nat) (σ : St) (x1 : Int32) (x2 : Int32) (x3 : Int32), f_J7_fill_031fb_5 F n σ x1 x2 x3 = some σ' → ∀ (H : Heap) (locs : List Loc) (ls : Array Slot), Dy g (wD g σ ++ X) s H locs → lv_has ls 4 [(0, .ref (ga g 10)), (1, .int x1), (2, .int x2), (3, .int x3)] → W p l e (rmD 0) s m args below meth c H locs 0 0 (QV g below args s (wD g σ' ++ X)) (F0 m 5 ls [])) := by
  have hx := C.1
  have hb := C.2.1
  have hE := C.2.2.2.2.2.2.2.2
  intro n
  induction n with
  | zero =>
    intro σ x1 x2 x3 h
    cases h
  | succ n ih =>
    intro σ x1 x2 x3 h H locs ls hd hl
    rw [f_J7_fill_031fb_5] at h
    refine lv_iload_n hx hb dJ7_fill_031fb_5 rfl (lv_at hl 2 rfl) ?_
    refine lv_iload_n hx hb dJ7_fill_031fb_6 rfl (lv_at hl 3 rfl) ?_
    refine lv_icmp_ge (tgt := 20) hx hb dJ7_fill_031fb_7 (by decide) (fun c1 => ?_) (fun c1 => ?_)
    · replace h := iteT c1 h
      exact rVretS (w := wD g) C hr hd h dJ7_fill_031fb_20
    · replace h := iteF c1 h
      refine lv_aload_n hx hb dJ7_fill_031fb_10 rfl (lv_at hl 0 rfl) ?_
      refine lv_iload_n hx hb dJ7_fill_031fb_11 rfl (lv_at hl 2 rfl) ?_
      refine lv_iload_n hx hb dJ7_fill_031fb_12 rfl (lv_at hl 1 rfl) ?_
      obtain ⟨n2, h⟩ := chk h
      obtain ⟨t3, et3, h⟩ := bnd_e h
      refine st_wD_10 C hd (inb_i n2) et3 dJ7_fill_031fb_13 (fun H locs hd => ?_)
      obtain ⟨v4, ev4, h⟩ := bnd_e h
      refine lv_iinc (v := v4) (lv' := [(2, .int v4), (0, .ref (ga g 10)), (1, .int x1), (3, .int x3)]) hx hb dJ7_fill_031fb_14 hl (k := 2) rfl ((ii_1 _).trans ev4.symm) (Nat.le_of_ble_eq_true rfl) rfl (fun ls hl => ?_)
      refine lv_goto (tgt := 5) hx hb dJ7_fill_031fb_17 (by decide) ?_
      exact ih t3 x1 v4 x3 h _ _ _ hd (lv_sub hl [1, 2, 0, 3] rfl)
noncomputable def f_J7_fill_031fb (F : Nat) (σ : St) (x1 : Int32) : Option St :=
  f_J7_fill_031fb_5 F F σ x1 0 241
set_option maxRecDepth 100000 in
set_option maxHeartbeats 4000000 in
theorem c_J7_fill_031fb {l : Launch} {g : Gp} {X : va_W} (hE : E0 g) {F : Nat} {σ' : St} {σ : St} {x1 : Int32} (h : f_J7_fill_031fb F σ x1 = some σ') : Cv l g yJ7_fill_031fb cJ7_fill_031fb 4 0 [.ref (ga g 10), .int x1] (wD g σ ++ X) (wD g σ' ++ X) := by
  refine rHead hE (by decide +kernel) (Nat.le_of_ble_eq_true rfl) (fun p e s m below meth c C hr _ hd ls hl => ?_)
  have hx := C.1
  have hb := C.2.1
  have hl : lv_has ls 4 [(0, .ref (ga g 10)), (1, .int x1)] := hl
  generalize ([.ref (ga g 10), .int x1] : List Value).toArray = args at C ⊢
  have C : Cx g p s m args meth c cJ7_fill_031fb 4 RJ7 := C
  rw [f_J7_fill_031fb] at h
  refine lv_iconst (v := 0) hx hb dJ7_fill_031fb_0 ic_0 ?_
  refine lv_istore_n (lv' := [(2, .int 0), (0, .ref (ga g 10)), (1, .int x1)]) hx hb dJ7_fill_031fb_1 rfl hl (Nat.le_of_ble_eq_true rfl) rfl (fun ls hl => ?_)
  refine lv_aload_n hx hb dJ7_fill_031fb_2 rfl (lv_at hl 1 rfl) ?_
  refine len_wD_10 C hd dJ7_fill_031fb_3 ?_
  refine lv_istore_n (lv' := [(3, .int 241), (2, .int 0), (0, .ref (ga g 10)), (1, .int x1)]) hx hb dJ7_fill_031fb_4 rfl hl (Nat.le_of_ble_eq_true rfl) rfl (fun ls hl => ?_)
  exact w_J7_fill_031fb_5 C hr _ σ x1 0 241 h _ _ _ hd (lv_sub hl [2, 3, 1, 0] rfl)
end S
