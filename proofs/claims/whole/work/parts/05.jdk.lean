section S
variable {p : Program} {l : Launch} {e : Env} {s : State} {m : MethodId} {args : Array Value} {below : List Frame} {meth : Method} {c : Code} {g : Gp} {X : va_W}
noncomputable def f_J0_isLatin1_aae02 (F : Nat) (i : Nat) (σ : St) : Option Int32 :=
  if (1 : Int32) = 0 then (some 0) else (if (0 : Int32) = 0 then (some 1) else (some 0))
set_option maxRecDepth 100000 in
set_option maxHeartbeats 4000000 in
theorem c_J0_isLatin1_aae02 {l : Launch} {g : Gp} {X : va_W} (hE : E0 g) {i : Nat} (hi : i < 6) {F : Nat} {r' : Int32} {σ : St} (h : f_J0_isLatin1_aae02 F i σ = some r') : Ci l g yJ0_isLatin1_aae02 cJ0_isLatin1_aae02 1 (some .boolean) 0 [.ref (ga g (100 + i))] (wD g σ ++ X) r' (wD g σ ++ X) := by
  refine rHead hE (by decide +kernel) (Nat.le_of_ble_eq_true rfl) (fun p e s m below meth c C hr _ hd ls hl => ?_)
  have hx := C.1
  have hb := C.2.1
  have hl : lv_has ls 1 [(0, .ref (ga g (100 + i)))] := hl
  generalize ([.ref (ga g (100 + i))] : List Value).toArray = args at C ⊢
  have C : Cx g p s m args meth c cJ0_isLatin1_aae02 1 RJ0 := C
  rw [f_J0_isLatin1_aae02] at h
  refine rCS C hd (mT 412 (by decide +kernel)) dJ0_isLatin1_aae02_0 ?_
  refine lv_if_eq (tgt := 17) hx hb dJ0_isLatin1_aae02_3 (by decide) (fun c1 => ?_) (fun c1 => ?_)
  · replace h := iteT c1 h
    refine lv_iconst (v := 0) hx hb dJ0_isLatin1_aae02_17 ic_0 ?_
    exact rZretP C hr hd h (by decide) dJ0_isLatin1_aae02_18
  · replace h := iteF c1 h
    refine lv_aload_n hx hb dJ0_isLatin1_aae02_6 rfl (lv_at hl 0 rfl) ?_
    refine rStrC C hd hi (mT 1950 (by decide +kernel)) dJ0_isLatin1_aae02_7 ?_
    refine lv_if_ne (tgt := 17) hx hb dJ0_isLatin1_aae02_10 (by decide) (fun c2 => ?_) (fun c2 => ?_)
    · replace h := iteF c2 h
      refine lv_iconst (v := 0) hx hb dJ0_isLatin1_aae02_17 ic_0 ?_
      exact rZretP C hr hd h (by decide) dJ0_isLatin1_aae02_18
    · replace h := iteT c2 h
      refine lv_iconst (v := 1) hx hb dJ0_isLatin1_aae02_13 ic_1 ?_
      refine lv_goto (tgt := 18) hx hb dJ0_isLatin1_aae02_14 (by decide) ?_
      exact rZretP C hr hd h (by decide) dJ0_isLatin1_aae02_18
noncomputable def f_J1_charAt_3b067 (F : Nat) (i : Nat) (σ : St) (x1 : Int32) : Option Int32 :=
  cal (f_J0_checkIndex_df160 F σ x1 (Int32.ofNat (lenS.getD i 0))) (fun t1 => if inb x1 (lenS.getD i 0) = true then if idC (UInt32.toInt32 (Int32.toUInt32 (((bytS.getD i []).getD x1.toNatClampNeg 0) &&& 255) % 65536)) = true then some (UInt32.toInt32 (Int32.toUInt32 (((bytS.getD i []).getD x1.toNatClampNeg 0) &&& 255) % 65536)) else none else none)
set_option maxRecDepth 100000 in
set_option maxHeartbeats 4000000 in
theorem c_J1_charAt_3b067 {l : Launch} {g : Gp} {X : va_W} (hE : E0 g) {i : Nat} (hi : i < 6) {F : Nat} {r' : Int32} {σ : St} {x1 : Int32} (h : f_J1_charAt_3b067 F i σ x1 = some r') : Ci l g yJ1_charAt_3b067 cJ1_charAt_3b067 2 (some .char) 2 [.ref (ga g (110 + i)), .int x1] (wD g σ ++ X) r' (wD g σ ++ X) := by
  refine rHead hE (by decide +kernel) (Nat.le_of_ble_eq_true rfl) (fun p e s m below meth c C hr _ hd ls hl => ?_)
  have hx := C.1
  have hb := C.2.1
  have hl : lv_has ls 2 [(0, .ref (ga g (110 + i))), (1, .int x1)] := hl
  generalize ([.ref (ga g (110 + i)), .int x1] : List Value).toArray = args at C ⊢
  have C : Cx g p s m args meth c cJ1_charAt_3b067 2 RJ1 := C
  rw [f_J1_charAt_3b067] at h
  refine lv_iload_n hx hb dJ1_charAt_3b067_0 rfl (lv_at hl 1 rfl) ?_
  refine lv_aload_n hx hb dJ1_charAt_3b067_1 rfl (lv_at hl 0 rfl) ?_
  refine rStrLen C hd hi dJ1_charAt_3b067_2 ?_
  obtain ⟨t1, et1, h⟩ := cal_e h
  refine rCallSV C hd (c_J0_checkIndex_df160 hE et1) kJ1_9 rfl hl.1 rfl (Nat.le_of_ble_eq_true rfl) ⟨(Nat.le_of_ble_eq_true rfl), (Nat.le_of_ble_eq_true rfl)⟩ ⟨Nat.le_refl _, Nat.le_refl _⟩ dJ1_charAt_3b067_3 (fun H locs hd => ?_)
  refine lv_aload_n hx hb dJ1_charAt_3b067_6 rfl (lv_at hl 0 rfl) ?_
  refine lv_iload_n hx hb dJ1_charAt_3b067_7 rfl (lv_at hl 1 rfl) ?_
  obtain ⟨n2, h⟩ := chk h
  refine rStrLd C hd hi (inb_i n2) dJ1_charAt_3b067_8 ?_
  refine lv_sipush (v := 255) hx hb dJ1_charAt_3b067_9 si_255 ?_
  refine lv_iand hx hb dJ1_charAt_3b067_12 ?_
  refine lv_i2c hx hb dJ1_charAt_3b067_13 rfl ?_
  obtain ⟨n3, h⟩ := chk h
  exact rNretP C hr hd h (narC n3) dJ1_charAt_3b067_14
noncomputable def f_J0_charAt_5068e (F : Nat) (i : Nat) (σ : St) (x1 : Int32) : Option Int32 :=
  cal (f_J0_isLatin1_aae02 F i σ) (fun r1 => if r1 = 0 then (none) else (cal (f_J1_charAt_3b067 F i σ x1) (fun r3 => if idC r3 = true then some r3 else none)))
set_option maxRecDepth 100000 in
set_option maxHeartbeats 4000000 in
theorem c_J0_charAt_5068e {l : Launch} {g : Gp} {X : va_W} (hE : E0 g) {i : Nat} (hi : i < 6) {F : Nat} {r' : Int32} {σ : St} {x1 : Int32} (h : f_J0_charAt_5068e F i σ x1 = some r') : Ci l g yJ0_charAt_5068e cJ0_charAt_5068e 2 (some .char) 3 [.ref (ga g (100 + i)), .int x1] (wD g σ ++ X) r' (wD g σ ++ X) := by
  refine rHead hE (by decide +kernel) (Nat.le_of_ble_eq_true rfl) (fun p e s m below meth c C hr _ hd ls hl => ?_)
  have hx := C.1
  have hb := C.2.1
  have hl : lv_has ls 2 [(0, .ref (ga g (100 + i))), (1, .int x1)] := hl
  generalize ([.ref (ga g (100 + i)), .int x1] : List Value).toArray = args at C ⊢
  have C : Cx g p s m args meth c cJ0_charAt_5068e 2 RJ0 := C
  rw [f_J0_charAt_5068e] at h
  refine lv_aload_n hx hb dJ0_charAt_5068e_0 rfl (lv_at hl 0 rfl) ?_
  obtain ⟨r1, er1, h⟩ := cal_e h
  refine rCallSt C hd hi (c_J0_isLatin1_aae02 hE hi er1) kJ0_492 rfl rfl hl.1 rfl (Nat.le_of_ble_eq_true rfl) ⟨(Nat.le_of_ble_eq_true rfl), (Nat.le_of_ble_eq_true rfl)⟩ ⟨Nat.le_refl _, Nat.le_refl _⟩ dJ0_charAt_5068e_1 (fun H locs hd => ?_)
  refine lv_if_eq (tgt := 16) hx hb dJ0_charAt_5068e_4 (by decide) (fun c2 => ?_) (fun c2 => ?_)
  · replace h := iteT c2 h
    cases h
  · replace h := iteF c2 h
    refine lv_aload_n hx hb dJ0_charAt_5068e_7 rfl (lv_at hl 0 rfl) ?_
    refine rStrV C hd hi (mT 1951 (by decide +kernel)) dJ0_charAt_5068e_8 ?_
    refine lv_iload_n hx hb dJ0_charAt_5068e_11 rfl (lv_at hl 1 rfl) ?_
    obtain ⟨r3, er3, h⟩ := cal_e h
    refine rCallSI C hd (c_J1_charAt_3b067 hE hi er3) kJ0_495 rfl hl.1 rfl (Nat.le_of_ble_eq_true rfl) ⟨(Nat.le_of_ble_eq_true rfl), (Nat.le_of_ble_eq_true rfl)⟩ ⟨Nat.le_refl _, Nat.le_refl _⟩ dJ0_charAt_5068e_12 (fun H locs hd => ?_)
    obtain ⟨n4, h⟩ := chk h
    exact rNretP C hr hd h (narC n4) dJ0_charAt_5068e_15
noncomputable def f_J0_coder_7d493 (F : Nat) (i : Nat) (σ : St) : Option Int32 :=
  if (1 : Int32) = 0 then (if idB 1 = true then some 1 else none) else (if idB 0 = true then some 0 else none)
set_option maxRecDepth 100000 in
set_option maxHeartbeats 4000000 in
theorem c_J0_coder_7d493 {l : Launch} {g : Gp} {X : va_W} (hE : E0 g) {i : Nat} (hi : i < 6) {F : Nat} {r' : Int32} {σ : St} (h : f_J0_coder_7d493 F i σ = some r') : Ci l g yJ0_coder_7d493 cJ0_coder_7d493 1 (some .byte) 0 [.ref (ga g (100 + i))] (wD g σ ++ X) r' (wD g σ ++ X) := by
  refine rHead hE (by decide +kernel) (Nat.le_of_ble_eq_true rfl) (fun p e s m below meth c C hr _ hd ls hl => ?_)
  have hx := C.1
  have hb := C.2.1
  have hl : lv_has ls 1 [(0, .ref (ga g (100 + i)))] := hl
  generalize ([.ref (ga g (100 + i))] : List Value).toArray = args at C ⊢
  have C : Cx g p s m args meth c cJ0_coder_7d493 1 RJ0 := C
  rw [f_J0_coder_7d493] at h
  refine rCS C hd (mT 412 (by decide +kernel)) dJ0_coder_7d493_0 ?_
  refine lv_if_eq (tgt := 13) hx hb dJ0_coder_7d493_3 (by decide) (fun c1 => ?_) (fun c1 => ?_)
  · replace h := iteT c1 h
    refine lv_iconst (v := 1) hx hb dJ0_coder_7d493_13 ic_1 ?_
    obtain ⟨n2, h⟩ := chk h
    exact rNretP C hr hd h (narB n2) dJ0_coder_7d493_14
  · replace h := iteF c1 h
    refine lv_aload_n hx hb dJ0_coder_7d493_6 rfl (lv_at hl 0 rfl) ?_
    refine rStrC C hd hi (mT 1950 (by decide +kernel)) dJ0_coder_7d493_7 ?_
    refine lv_goto (tgt := 14) hx hb dJ0_coder_7d493_10 (by decide) ?_
    obtain ⟨n3, h⟩ := chk h
    exact rNretP C hr hd h (narB n3) dJ0_coder_7d493_14
noncomputable def f_J0_getBytes_840e7 (F : Nat) (i : Nat) (σ : St) (x2 : Int32) (x3 : Int32) : Option St :=
  cal (f_J0_coder_7d493 F i σ) (fun r1 => if r1 = x3 then (if (¬ (0 : Int32) < 0) ∧ (¬ (x2 <<< (x3 &&& 31)) < 0) ∧ (¬ (Int32.ofNat (lenS.getD i 0)) < 0) ∧ (0 : Int32).toNatClampNeg + (Int32.ofNat (lenS.getD i 0)).toNatClampNeg ≤ lenS.getD i 0 ∧ (x2 <<< (x3 &&& 31)).toNatClampNeg + (Int32.ofNat (lenS.getD i 0)).toNatClampNeg ≤ 16 then bnd (sw σ 33 (va_cpy (fun j => (bytS.getD i []).getD j 0) (σ.2.1 33) (0 : Int32).toNatClampNeg (x2 <<< (x3 &&& 31)).toNatClampNeg (Int32.ofNat (lenS.getD i 0)).toNatClampNeg)) (fun t4 => some t4) else none) else (none))
set_option maxRecDepth 100000 in
set_option maxHeartbeats 4000000 in
theorem c_J0_getBytes_840e7 {l : Launch} {g : Gp} {X : va_W} (hE : E0 g) {i : Nat} (hi : i < 6) {F : Nat} {σ' : St} {σ : St} {x2 : Int32} {x3 : Int32} (h : f_J0_getBytes_840e7 F i σ x2 x3 = some σ') : Cv l g yJ0_getBytes_840e7 cJ0_getBytes_840e7 4 2 [.ref (ga g (100 + i)), .ref (ga g 33), .int x2, .int x3] (wD g σ ++ X) (wD g σ' ++ X) := by
  refine rHead hE (by decide +kernel) (Nat.le_of_ble_eq_true rfl) (fun p e s m below meth c C hr _ hd ls hl => ?_)
  have hx := C.1
  have hb := C.2.1
  have hl : lv_has ls 4 [(0, .ref (ga g (100 + i))), (1, .ref (ga g 33)), (2, .int x2), (3, .int x3)] := hl
  generalize ([.ref (ga g (100 + i)), .ref (ga g 33), .int x2, .int x3] : List Value).toArray = args at C ⊢
  have C : Cx g p s m args meth c cJ0_getBytes_840e7 4 RJ0 := C
  rw [f_J0_getBytes_840e7] at h
  refine lv_aload_n hx hb dJ0_getBytes_840e7_0 rfl (lv_at hl 0 rfl) ?_
  obtain ⟨r1, er1, h⟩ := cal_e h
  refine rCallSt C hd hi (c_J0_coder_7d493 hE hi er1) kJ0_335 rfl rfl hl.1 rfl (Nat.le_of_ble_eq_true rfl) ⟨(Nat.le_of_ble_eq_true rfl), (Nat.le_of_ble_eq_true rfl)⟩ ⟨Nat.le_refl _, Nat.le_refl _⟩ dJ0_getBytes_840e7_1 (fun H locs hd => ?_)
  refine lv_iload_n hx hb dJ0_getBytes_840e7_4 rfl (lv_at hl 3 rfl) ?_
  refine lv_icmp_ne (tgt := 28) hx hb dJ0_getBytes_840e7_5 (by decide) (fun c2 => ?_) (fun c2 => ?_)
  · replace h := iteF c2 h
    cases h
  · replace h := iteT c2 h
    refine lv_aload_n hx hb dJ0_getBytes_840e7_8 rfl (lv_at hl 0 rfl) ?_
    refine rStrV C hd hi (mT 1951 (by decide +kernel)) dJ0_getBytes_840e7_9 ?_
    refine lv_iconst (v := 0) hx hb dJ0_getBytes_840e7_12 ic_0 ?_
    refine lv_aload_n hx hb dJ0_getBytes_840e7_13 rfl (lv_at hl 1 rfl) ?_
    refine lv_iload_n hx hb dJ0_getBytes_840e7_14 rfl (lv_at hl 2 rfl) ?_
    refine lv_iload_n hx hb dJ0_getBytes_840e7_15 rfl (lv_at hl 3 rfl) ?_
    refine lv_ishl hx hb dJ0_getBytes_840e7_16 ?_
    refine lv_aload_n hx hb dJ0_getBytes_840e7_17 rfl (lv_at hl 0 rfl) ?_
    refine rStrV C hd hi (mT 1951 (by decide +kernel)) dJ0_getBytes_840e7_18 ?_
    refine rStrLen C hd hi dJ0_getBytes_840e7_21 ?_
    obtain ⟨n3, h⟩ := chk h
    obtain ⟨t4, et4, h⟩ := bnd_e h
    refine rCopyT (ws' := wD g t4 ++ X) C hd hi hl.1 33 rfl n3 (by subst et4; rfl) (mT 1074 (by decide +kernel)) ⟨(Nat.le_of_ble_eq_true rfl), (Nat.le_of_ble_eq_true rfl)⟩ dJ0_getBytes_840e7_22 (fun H locs hd => ?_)
    refine lv_goto (tgt := 43) hx hb dJ0_getBytes_840e7_25 (by decide) ?_
    exact rVretS (w := wD g) C hr hd h dJ0_getBytes_840e7_43
noncomputable def f_J0_length_8abf5 (F : Nat) (i : Nat) (σ : St) : Option Int32 :=
  cal (f_J0_coder_7d493 F i σ) (fun r1 => some ((Int32.ofNat (lenS.getD i 0)) >>> (r1 &&& 31)))
set_option maxRecDepth 100000 in
set_option maxHeartbeats 4000000 in
theorem c_J0_length_8abf5 {l : Launch} {g : Gp} {X : va_W} (hE : E0 g) {i : Nat} (hi : i < 6) {F : Nat} {r' : Int32} {σ : St} (h : f_J0_length_8abf5 F i σ = some r') : Ci l g yJ0_length_8abf5 cJ0_length_8abf5 1 (some .int) 1 [.ref (ga g (100 + i))] (wD g σ ++ X) r' (wD g σ ++ X) := by
  refine rHead hE (by decide +kernel) (Nat.le_of_ble_eq_true rfl) (fun p e s m below meth c C hr _ hd ls hl => ?_)
  have hx := C.1
  have hb := C.2.1
  have hl : lv_has ls 1 [(0, .ref (ga g (100 + i)))] := hl
  generalize ([.ref (ga g (100 + i))] : List Value).toArray = args at C ⊢
  have C : Cx g p s m args meth c cJ0_length_8abf5 1 RJ0 := C
  rw [f_J0_length_8abf5] at h
  refine lv_aload_n hx hb dJ0_length_8abf5_0 rfl (lv_at hl 0 rfl) ?_
  refine rStrV C hd hi (mT 1951 (by decide +kernel)) dJ0_length_8abf5_1 ?_
  refine rStrLen C hd hi dJ0_length_8abf5_4 ?_
  refine lv_aload_n hx hb dJ0_length_8abf5_5 rfl (lv_at hl 0 rfl) ?_
  obtain ⟨r1, er1, h⟩ := cal_e h
  refine rCallSt C hd hi (c_J0_coder_7d493 hE hi er1) kJ0_335 rfl rfl hl.1 rfl (Nat.le_of_ble_eq_true rfl) ⟨(Nat.le_of_ble_eq_true rfl), (Nat.le_of_ble_eq_true rfl)⟩ ⟨Nat.le_refl _, Nat.le_refl _⟩ dJ0_length_8abf5_6 (fun H locs hd => ?_)
  refine lv_ishr hx hb dJ0_length_8abf5_9 ?_
  exact rIretP C hr hd h dJ0_length_8abf5_10
noncomputable def f_J1_canEncode_9a6ad (F : Nat) (σ : St) (x0 : Int32) : Option Int32 :=
  if x0 < 0 then (some 0) else (if 255 < x0 then (some 0) else (some 1))
set_option maxRecDepth 100000 in
set_option maxHeartbeats 4000000 in
theorem c_J1_canEncode_9a6ad {l : Launch} {g : Gp} {X : va_W} (hE : E0 g) {F : Nat} {r' : Int32} {σ : St} {x0 : Int32} (h : f_J1_canEncode_9a6ad F σ x0 = some r') : Ci l g yJ1_canEncode_9a6ad cJ1_canEncode_9a6ad 1 (some .boolean) 0 [.int x0] (wD g σ ++ X) r' (wD g σ ++ X) := by
  refine rHead hE (by decide +kernel) (Nat.le_of_ble_eq_true rfl) (fun p e s m below meth c C hr _ hd ls hl => ?_)
  have hx := C.1
  have hb := C.2.1
  have hl : lv_has ls 1 [(0, .int x0)] := hl
  generalize ([.int x0] : List Value).toArray = args at C ⊢
  have C : Cx g p s m args meth c cJ1_canEncode_9a6ad 1 RJ1 := C
  rw [f_J1_canEncode_9a6ad] at h
  refine lv_iload_n hx hb dJ1_canEncode_9a6ad_0 rfl (lv_at hl 0 rfl) ?_
  refine lv_if_lt (tgt := 15) hx hb dJ1_canEncode_9a6ad_1 (by decide) (fun c1 => ?_) (fun c1 => ?_)
  · replace h := iteT c1 h
    refine lv_iconst (v := 0) hx hb dJ1_canEncode_9a6ad_15 ic_0 ?_
    exact rZretP C hr hd h (by decide) dJ1_canEncode_9a6ad_16
  · replace h := iteF c1 h
    refine lv_iload_n hx hb dJ1_canEncode_9a6ad_4 rfl (lv_at hl 0 rfl) ?_
    refine lv_sipush (v := 255) hx hb dJ1_canEncode_9a6ad_5 si_255 ?_
    refine lv_icmp_gt (tgt := 15) hx hb dJ1_canEncode_9a6ad_8 (by decide) (fun c2 => ?_) (fun c2 => ?_)
    · replace h := iteT c2 h
      refine lv_iconst (v := 0) hx hb dJ1_canEncode_9a6ad_15 ic_0 ?_
      exact rZretP C hr hd h (by decide) dJ1_canEncode_9a6ad_16
    · replace h := iteF c2 h
      refine lv_iconst (v := 1) hx hb dJ1_canEncode_9a6ad_11 ic_1 ?_
      refine lv_goto (tgt := 16) hx hb dJ1_canEncode_9a6ad_12 (by decide) ?_
      exact rZretP C hr hd h (by decide) dJ1_canEncode_9a6ad_16
noncomputable def f_J1_indexOfChar_4cfef_7 (F : Nat) (i : Nat) : Nat → St → Int32 → Int32 → Int32 → Option Int32
  | 0, _, _, _, _ => none
  | n + 1, σ, x3, x4, x5 => if x3 ≤ x5 then (some (-1 : Int32)) else (if inb x5 (lenS.getD i 0) = true then if ((bytS.getD i []).getD x5.toNatClampNeg 0) = x4 then (some x5) else (bnd (x5 + 1) (fun v4 => f_J1_indexOfChar_4cfef_7 F i n σ x3 x4 v4)) else none)
set_option maxRecDepth 100000 in
set_option maxHeartbeats 4000000 in
theorem w_J1_indexOfChar_4cfef_7 {F : Nat} {r' : Int32}  (C : Cx g p s m args meth c cJ1_indexOfChar_4cfef 6 RJ1) (hr : meth.sig.returnType = some .int) {i : Nat} (hi : i < 6) :
    (∀ (n : Nat) (σ : St) (x3 : Int32) (x4 : Int32) (x5 : Int32), f_J1_indexOfChar_4cfef_7 F i n σ x3 x4 x5 = some r' → ∀ (H : Heap) (locs : List Loc) (ls : Array Slot), Dy g (wD g σ ++ X) s H locs → lv_has ls 6 [(0, .ref (ga g (110 + i))), (3, .int x3), (4, .int x4), (5, .int x5)] → W p l e (rmD 0) s m args below meth c H locs 0 0 (QI g below args s (wD g σ ++ X) r') (F0 m 7 ls [])) := by
  have hx := C.1
  have hb := C.2.1
  have hE := C.2.2.2.2.2.2.2.2
  intro n
  induction n with
  | zero =>
    intro σ x3 x4 x5 h
    cases h
  | succ n ih =>
    intro σ x3 x4 x5 h H locs ls hd hl
    rw [f_J1_indexOfChar_4cfef_7] at h
    refine lv_iload hx hb dJ1_indexOfChar_4cfef_7 (lv_at hl 3 rfl) ?_
    refine lv_iload_n hx hb dJ1_indexOfChar_4cfef_9 rfl (lv_at hl 1 rfl) ?_
    refine lv_icmp_ge (tgt := 31) hx hb dJ1_indexOfChar_4cfef_10 (by decide) (fun c1 => ?_) (fun c1 => ?_)
    · replace h := iteT c1 h
      refine lv_iconst (v := (-1 : Int32)) hx hb dJ1_indexOfChar_4cfef_31 ic_m1 ?_
      exact rIretP C hr hd h dJ1_indexOfChar_4cfef_32
    · replace h := iteF c1 h
      refine lv_aload_n hx hb dJ1_indexOfChar_4cfef_13 rfl (lv_at hl 0 rfl) ?_
      refine lv_iload hx hb dJ1_indexOfChar_4cfef_14 (lv_at hl 3 rfl) ?_
      obtain ⟨n2, h⟩ := chk h
      refine rStrLd C hd hi (inb_i n2) dJ1_indexOfChar_4cfef_16 ?_
      refine lv_iload hx hb dJ1_indexOfChar_4cfef_17 (lv_at hl 2 rfl) ?_
      refine lv_icmp_ne (tgt := 25) hx hb dJ1_indexOfChar_4cfef_19 (by decide) (fun c3 => ?_) (fun c3 => ?_)
      · replace h := iteF c3 h
        obtain ⟨v4, ev4, h⟩ := bnd_e h
        refine lv_iinc (v := v4) (lv' := [(5, .int v4), (0, .ref (ga g (110 + i))), (3, .int x3), (4, .int x4)]) hx hb dJ1_indexOfChar_4cfef_25 hl (k := 3) rfl ((ii_1 _).trans ev4.symm) (Nat.le_of_ble_eq_true rfl) rfl (fun ls hl => ?_)
        refine lv_goto (tgt := 7) hx hb dJ1_indexOfChar_4cfef_28 (by decide) ?_
        exact ih σ x3 x4 v4 h _ _ _ hd (lv_sub hl [1, 2, 3, 0] rfl)
      · replace h := iteT c3 h
        refine lv_iload hx hb dJ1_indexOfChar_4cfef_22 (lv_at hl 3 rfl) ?_
        exact rIretP C hr hd h dJ1_indexOfChar_4cfef_24
noncomputable def f_J1_indexOfChar_4cfef (F : Nat) (i : Nat) (σ : St) (x1 : Int32) (x2 : Int32) (x3 : Int32) : Option Int32 :=
  bnd (Int8.toInt32 (Int32.toInt8 x1)) (fun v1 => f_J1_indexOfChar_4cfef_7 F i F σ x3 v1 x2)
set_option maxRecDepth 100000 in
set_option maxHeartbeats 4000000 in
theorem c_J1_indexOfChar_4cfef {l : Launch} {g : Gp} {X : va_W} (hE : E0 g) {i : Nat} (hi : i < 6) {F : Nat} {r' : Int32} {σ : St} {x1 : Int32} {x2 : Int32} {x3 : Int32} (h : f_J1_indexOfChar_4cfef F i σ x1 x2 x3 = some r') : Ci l g yJ1_indexOfChar_4cfef cJ1_indexOfChar_4cfef 6 (some .int) 0 [.ref (ga g (110 + i)), .int x1, .int x2, .int x3] (wD g σ ++ X) r' (wD g σ ++ X) := by
  refine rHead hE (by decide +kernel) (Nat.le_of_ble_eq_true rfl) (fun p e s m below meth c C hr _ hd ls hl => ?_)
  have hx := C.1
  have hb := C.2.1
  have hl : lv_has ls 6 [(0, .ref (ga g (110 + i))), (1, .int x1), (2, .int x2), (3, .int x3)] := hl
  generalize ([.ref (ga g (110 + i)), .int x1, .int x2, .int x3] : List Value).toArray = args at C ⊢
  have C : Cx g p s m args meth c cJ1_indexOfChar_4cfef 6 RJ1 := C
  rw [f_J1_indexOfChar_4cfef] at h
  refine lv_iload_n hx hb dJ1_indexOfChar_4cfef_0 rfl (lv_at hl 1 rfl) ?_
  refine lv_i2b hx hb dJ1_indexOfChar_4cfef_1 rfl ?_
  obtain ⟨v1, ev1, h⟩ := bnd_e h
  refine rTop ev1 ?_
  refine lv_istore (lv' := [(4, .int v1), (0, .ref (ga g (110 + i))), (1, .int x1), (2, .int x2), (3, .int x3)]) hx hb dJ1_indexOfChar_4cfef_2 hl (Nat.le_of_ble_eq_true rfl) rfl (fun ls hl => ?_)
  refine lv_iload_n hx hb dJ1_indexOfChar_4cfef_4 rfl (lv_at hl 3 rfl) ?_
  refine lv_istore (lv' := [(5, .int x2), (4, .int v1), (0, .ref (ga g (110 + i))), (1, .int x1), (2, .int x2), (3, .int x3)]) hx hb dJ1_indexOfChar_4cfef_5 hl (Nat.le_of_ble_eq_true rfl) rfl (fun ls hl => ?_)
  exact w_J1_indexOfChar_4cfef_7 C hr hi _ σ x3 v1 x2 h _ _ _ hd (lv_sub hl [2, 5, 1, 0] rfl)
noncomputable def f_J1_indexOf_4cfef (F : Nat) (i : Nat) (σ : St) (x1 : Int32) (x2 : Int32) (x3 : Int32) : Option Int32 :=
  cal (f_J1_canEncode_9a6ad F σ x1) (fun r1 => if r1 = 0 then (some (-1 : Int32)) else (bnd (mx x2 0) (fun v3 => bnd (mn x3 (Int32.ofNat (lenS.getD i 0))) (fun v4 => if v3 < v4 then (cal (f_J1_indexOfChar_4cfef F i σ x1 v3 v4) (fun r6 => some r6)) else (some (-1 : Int32))))))
set_option maxRecDepth 100000 in
set_option maxHeartbeats 4000000 in
theorem c_J1_indexOf_4cfef {l : Launch} {g : Gp} {X : va_W} (hE : E0 g) {i : Nat} (hi : i < 6) {F : Nat} {r' : Int32} {σ : St} {x1 : Int32} {x2 : Int32} {x3 : Int32} (h : f_J1_indexOf_4cfef F i σ x1 x2 x3 = some r') : Ci l g yJ1_indexOf_4cfef cJ1_indexOf_4cfef 4 (some .int) 1 [.ref (ga g (110 + i)), .int x1, .int x2, .int x3] (wD g σ ++ X) r' (wD g σ ++ X) := by
  refine rHead hE (by decide +kernel) (Nat.le_of_ble_eq_true rfl) (fun p e s m below meth c C hr _ hd ls hl => ?_)
  have hx := C.1
  have hb := C.2.1
  have hl : lv_has ls 4 [(0, .ref (ga g (110 + i))), (1, .int x1), (2, .int x2), (3, .int x3)] := hl
  generalize ([.ref (ga g (110 + i)), .int x1, .int x2, .int x3] : List Value).toArray = args at C ⊢
  have C : Cx g p s m args meth c cJ1_indexOf_4cfef 4 RJ1 := C
  rw [f_J1_indexOf_4cfef] at h
  refine lv_iload_n hx hb dJ1_indexOf_4cfef_0 rfl (lv_at hl 1 rfl) ?_
  obtain ⟨r1, er1, h⟩ := cal_e h
  refine rCallSI C hd (c_J1_canEncode_9a6ad hE er1) kJ1_88 rfl hl.1 rfl (Nat.le_of_ble_eq_true rfl) ⟨(Nat.le_of_ble_eq_true rfl), (Nat.le_of_ble_eq_true rfl)⟩ ⟨Nat.le_refl _, Nat.le_refl _⟩ dJ1_indexOf_4cfef_1 (fun H locs hd => ?_)
  refine lv_if_ne (tgt := 9) hx hb dJ1_indexOf_4cfef_4 (by decide) (fun c2 => ?_) (fun c2 => ?_)
  · replace h := iteF c2 h
    refine lv_iload_n hx hb dJ1_indexOf_4cfef_9 rfl (lv_at hl 2 rfl) ?_
    refine lv_iconst (v := 0) hx hb dJ1_indexOf_4cfef_10 ic_0 ?_
    refine rMax C hl.1 (mT 466 (by decide +kernel)) (mT 467 (by decide +kernel)) (mT 14 (by decide +kernel)) (mT 468 (by decide +kernel)) ⟨(Nat.le_of_ble_eq_true rfl), (Nat.le_of_ble_eq_true rfl)⟩ ⟨Nat.le_refl _, Nat.le_refl _⟩ dJ1_indexOf_4cfef_11 ?_
    obtain ⟨v3, ev3, h⟩ := bnd_e h
    refine rTop ev3 ?_
    refine lv_istore_n (lv' := [(2, .int v3), (0, .ref (ga g (110 + i))), (1, .int x1), (3, .int x3)]) hx hb dJ1_indexOf_4cfef_14 rfl hl (Nat.le_of_ble_eq_true rfl) rfl (fun ls hl => ?_)
    refine lv_iload_n hx hb dJ1_indexOf_4cfef_15 rfl (lv_at hl 3 rfl) ?_
    refine lv_aload_n hx hb dJ1_indexOf_4cfef_16 rfl (lv_at hl 1 rfl) ?_
    refine rStrLen C hd hi dJ1_indexOf_4cfef_17 ?_
    refine rMin C hl.1 (mT 469 (by decide +kernel)) (mT 380 (by decide +kernel)) (mT 14 (by decide +kernel)) (mT 381 (by decide +kernel)) ⟨(Nat.le_of_ble_eq_true rfl), (Nat.le_of_ble_eq_true rfl)⟩ ⟨Nat.le_refl _, Nat.le_refl _⟩ dJ1_indexOf_4cfef_18 ?_
    obtain ⟨v4, ev4, h⟩ := bnd_e h
    refine rTop ev4 ?_
    refine lv_istore_n (lv' := [(3, .int v4), (2, .int v3), (0, .ref (ga g (110 + i))), (1, .int x1)]) hx hb dJ1_indexOf_4cfef_21 rfl hl (Nat.le_of_ble_eq_true rfl) rfl (fun ls hl => ?_)
    refine lv_iload_n hx hb dJ1_indexOf_4cfef_22 rfl (lv_at hl 1 rfl) ?_
    refine lv_iload_n hx hb dJ1_indexOf_4cfef_23 rfl (lv_at hl 0 rfl) ?_
    refine lv_icmp_lt (tgt := 29) hx hb dJ1_indexOf_4cfef_24 (by decide) (fun c5 => ?_) (fun c5 => ?_)
    · replace h := iteT c5 h
      refine lv_aload_n hx hb dJ1_indexOf_4cfef_29 rfl (lv_at hl 2 rfl) ?_
      refine lv_iload_n hx hb dJ1_indexOf_4cfef_30 rfl (lv_at hl 3 rfl) ?_
      refine lv_iload_n hx hb dJ1_indexOf_4cfef_31 rfl (lv_at hl 1 rfl) ?_
      refine lv_iload_n hx hb dJ1_indexOf_4cfef_32 rfl (lv_at hl 0 rfl) ?_
      obtain ⟨r6, er6, h⟩ := cal_e h
      refine rCallSI C hd (c_J1_indexOfChar_4cfef hE hi er6) kJ1_95 rfl hl.1 rfl (Nat.le_of_ble_eq_true rfl) ⟨(Nat.le_of_ble_eq_true rfl), (Nat.le_of_ble_eq_true rfl)⟩ ⟨Nat.le_refl _, Nat.le_refl _⟩ dJ1_indexOf_4cfef_33 (fun H locs hd => ?_)
      exact rIretP C hr hd h dJ1_indexOf_4cfef_36
    · replace h := iteF c5 h
      refine lv_iconst (v := (-1 : Int32)) hx hb dJ1_indexOf_4cfef_27 ic_m1 ?_
      exact rIretP C hr hd h dJ1_indexOf_4cfef_28
  · replace h := iteT c2 h
    refine lv_iconst (v := (-1 : Int32)) hx hb dJ1_indexOf_4cfef_7 ic_m1 ?_
    exact rIretP C hr hd h dJ1_indexOf_4cfef_8
noncomputable def f_J0_indexOf_7cf53 (F : Nat) (i : Nat) (σ : St) (x1 : Int32) (x2 : Int32) : Option Int32 :=
  cal (f_J0_isLatin1_aae02 F i σ) (fun r1 => if r1 = 0 then (none) else (cal (f_J0_length_8abf5 F i σ) (fun r4 => cal (f_J1_indexOf_4cfef F i σ x1 x2 r4) (fun r5 => some r5))))
set_option maxRecDepth 100000 in
set_option maxHeartbeats 4000000 in
theorem c_J0_indexOf_7cf53 {l : Launch} {g : Gp} {X : va_W} (hE : E0 g) {i : Nat} (hi : i < 6) {F : Nat} {r' : Int32} {σ : St} {x1 : Int32} {x2 : Int32} (h : f_J0_indexOf_7cf53 F i σ x1 x2 = some r') : Ci l g yJ0_indexOf_7cf53 cJ0_indexOf_7cf53 3 (some .int) 2 [.ref (ga g (100 + i)), .int x1, .int x2] (wD g σ ++ X) r' (wD g σ ++ X) := by
  refine rHead hE (by decide +kernel) (Nat.le_of_ble_eq_true rfl) (fun p e s m below meth c C hr _ hd ls hl => ?_)
  have hx := C.1
  have hb := C.2.1
  have hl : lv_has ls 3 [(0, .ref (ga g (100 + i))), (1, .int x1), (2, .int x2)] := hl
  generalize ([.ref (ga g (100 + i)), .int x1, .int x2] : List Value).toArray = args at C ⊢
  have C : Cx g p s m args meth c cJ0_indexOf_7cf53 3 RJ0 := C
  rw [f_J0_indexOf_7cf53] at h
  refine lv_aload_n hx hb dJ0_indexOf_7cf53_0 rfl (lv_at hl 0 rfl) ?_
  obtain ⟨r1, er1, h⟩ := cal_e h
  refine rCallSt C hd hi (c_J0_isLatin1_aae02 hE hi er1) kJ0_492 rfl rfl hl.1 rfl (Nat.le_of_ble_eq_true rfl) ⟨(Nat.le_of_ble_eq_true rfl), (Nat.le_of_ble_eq_true rfl)⟩ ⟨Nat.le_refl _, Nat.le_refl _⟩ dJ0_indexOf_7cf53_1 (fun H locs hd => ?_)
  refine lv_if_eq (tgt := 23) hx hb dJ0_indexOf_7cf53_4 (by decide) (fun c2 => ?_) (fun c2 => ?_)
  · replace h := iteT c2 h
    cases h
  · replace h := iteF c2 h
    refine lv_aload_n hx hb dJ0_indexOf_7cf53_7 rfl (lv_at hl 0 rfl) ?_
    refine rStrV C hd hi (mT 1951 (by decide +kernel)) dJ0_indexOf_7cf53_8 ?_
    refine lv_iload_n hx hb dJ0_indexOf_7cf53_11 rfl (lv_at hl 1 rfl) ?_
    refine lv_iload_n hx hb dJ0_indexOf_7cf53_12 rfl (lv_at hl 2 rfl) ?_
    refine lv_aload_n hx hb dJ0_indexOf_7cf53_13 rfl (lv_at hl 0 rfl) ?_
    obtain ⟨r4, er4, h⟩ := cal_e h
    refine rCallSt C hd hi (c_J0_length_8abf5 hE hi er4) kJ0_505 rfl rfl hl.1 rfl (Nat.le_of_ble_eq_true rfl) ⟨(Nat.le_of_ble_eq_true rfl), (Nat.le_of_ble_eq_true rfl)⟩ ⟨Nat.le_refl _, Nat.le_refl _⟩ dJ0_indexOf_7cf53_14 (fun H locs hd => ?_)
    obtain ⟨r5, er5, h⟩ := cal_e h
    refine rCallSI C hd (c_J1_indexOf_4cfef hE hi er5) kJ0_637 rfl hl.1 rfl (Nat.le_of_ble_eq_true rfl) ⟨(Nat.le_of_ble_eq_true rfl), (Nat.le_of_ble_eq_true rfl)⟩ ⟨Nat.le_refl _, Nat.le_refl _⟩ dJ0_indexOf_7cf53_17 (fun H locs hd => ?_)
    refine lv_goto (tgt := 36) hx hb dJ0_indexOf_7cf53_20 (by decide) ?_
    exact rIretP C hr hd h dJ0_indexOf_7cf53_36
noncomputable def f_J0_indexOf_0f7a4 (F : Nat) (i : Nat) (σ : St) (x1 : Int32) : Option Int32 :=
  cal (f_J0_indexOf_7cf53 F i σ x1 0) (fun r1 => some r1)
set_option maxRecDepth 100000 in
set_option maxHeartbeats 4000000 in
theorem c_J0_indexOf_0f7a4 {l : Launch} {g : Gp} {X : va_W} (hE : E0 g) {i : Nat} (hi : i < 6) {F : Nat} {r' : Int32} {σ : St} {x1 : Int32} (h : f_J0_indexOf_0f7a4 F i σ x1 = some r') : Ci l g yJ0_indexOf_0f7a4 cJ0_indexOf_0f7a4 2 (some .int) 3 [.ref (ga g (100 + i)), .int x1] (wD g σ ++ X) r' (wD g σ ++ X) := by
  refine rHead hE (by decide +kernel) (Nat.le_of_ble_eq_true rfl) (fun p e s m below meth c C hr _ hd ls hl => ?_)
  have hx := C.1
  have hb := C.2.1
  have hl : lv_has ls 2 [(0, .ref (ga g (100 + i))), (1, .int x1)] := hl
  generalize ([.ref (ga g (100 + i)), .int x1] : List Value).toArray = args at C ⊢
  have C : Cx g p s m args meth c cJ0_indexOf_0f7a4 2 RJ0 := C
  rw [f_J0_indexOf_0f7a4] at h
  refine lv_aload_n hx hb dJ0_indexOf_0f7a4_0 rfl (lv_at hl 0 rfl) ?_
  refine lv_iload_n hx hb dJ0_indexOf_0f7a4_1 rfl (lv_at hl 1 rfl) ?_
  refine lv_iconst (v := 0) hx hb dJ0_indexOf_0f7a4_2 ic_0 ?_
  obtain ⟨r1, er1, h⟩ := cal_e h
  refine rCallSt C hd hi (c_J0_indexOf_7cf53 hE hi er1) kJ0_633 rfl rfl hl.1 rfl (Nat.le_of_ble_eq_true rfl) ⟨(Nat.le_of_ble_eq_true rfl), (Nat.le_of_ble_eq_true rfl)⟩ ⟨Nat.le_refl _, Nat.le_refl _⟩ dJ0_indexOf_0f7a4_3 (fun H locs hd => ?_)
  exact rIretP C hr hd h dJ0_indexOf_0f7a4_6
noncomputable def f_J1_canEncode_fc78d (F : Nat) (σ : St) (x0 : Int32) : Option Int32 :=
  if 255 < x0 then (some 0) else (some 1)
set_option maxRecDepth 100000 in
set_option maxHeartbeats 4000000 in
theorem c_J1_canEncode_fc78d {l : Launch} {g : Gp} {X : va_W} (hE : E0 g) {F : Nat} {r' : Int32} {σ : St} {x0 : Int32} (h : f_J1_canEncode_fc78d F σ x0 = some r') : Ci l g yJ1_canEncode_fc78d cJ1_canEncode_fc78d 1 (some .boolean) 0 [.int x0] (wD g σ ++ X) r' (wD g σ ++ X) := by
  refine rHead hE (by decide +kernel) (Nat.le_of_ble_eq_true rfl) (fun p e s m below meth c C hr _ hd ls hl => ?_)
  have hx := C.1
  have hb := C.2.1
  have hl : lv_has ls 1 [(0, .int x0)] := hl
  generalize ([.int x0] : List Value).toArray = args at C ⊢
  have C : Cx g p s m args meth c cJ1_canEncode_fc78d 1 RJ1 := C
  rw [f_J1_canEncode_fc78d] at h
  refine lv_iload_n hx hb dJ1_canEncode_fc78d_0 rfl (lv_at hl 0 rfl) ?_
  refine lv_sipush (v := 255) hx hb dJ1_canEncode_fc78d_1 si_255 ?_
  refine lv_icmp_gt (tgt := 11) hx hb dJ1_canEncode_fc78d_4 (by decide) (fun c1 => ?_) (fun c1 => ?_)
  · replace h := iteT c1 h
    refine lv_iconst (v := 0) hx hb dJ1_canEncode_fc78d_11 ic_0 ?_
    exact rZretP C hr hd h (by decide) dJ1_canEncode_fc78d_12
  · replace h := iteF c1 h
    refine lv_iconst (v := 1) hx hb dJ1_canEncode_fc78d_7 ic_1 ?_
    refine lv_goto (tgt := 12) hx hb dJ1_canEncode_fc78d_8 (by decide) ?_
    exact rZretP C hr hd h (by decide) dJ1_canEncode_fc78d_12
noncomputable def f_J5_ensureCapacityInternal_d00df (F : Nat) (σ : St) (x1 : Int32) : Option St :=
  bnd (16 >>> ((σ.1 32) &&& 31)) (fun v1 => if (x1 - v1) ≤ 0 then (some σ) else (none))
set_option maxRecDepth 100000 in
set_option maxHeartbeats 4000000 in
theorem c_J5_ensureCapacityInternal_d00df {l : Launch} {g : Gp} {X : va_W} (hE : E0 g) {F : Nat} {σ' : St} {σ : St} {x1 : Int32} (h : f_J5_ensureCapacityInternal_d00df F σ x1 = some σ') : Cv l g yJ5_ensureCapacityInternal_d00df cJ5_ensureCapacityInternal_d00df 3 0 [.ref (ga g 8), .int x1] (wD g σ ++ X) (wD g σ' ++ X) := by
  refine rHead hE (by decide +kernel) (Nat.le_of_ble_eq_true rfl) (fun p e s m below meth c C hr _ hd ls hl => ?_)
  have hx := C.1
  have hb := C.2.1
  have hl : lv_has ls 3 [(0, .ref (ga g 8)), (1, .int x1)] := hl
  generalize ([.ref (ga g 8), .int x1] : List Value).toArray = args at C ⊢
  have C : Cx g p s m args meth c cJ5_ensureCapacityInternal_d00df 3 RJ5 := C
  rw [f_J5_ensureCapacityInternal_d00df] at h
  refine lv_aload_n hx hb dJ5_ensureCapacityInternal_d00df_0 rfl (lv_at hl 0 rfl) ?_
  refine gJ5_15 C hd dJ5_ensureCapacityInternal_d00df_1 ?_
  refine len_wD_33 C hd dJ5_ensureCapacityInternal_d00df_4 ?_
  refine lv_aload_n hx hb dJ5_ensureCapacityInternal_d00df_5 rfl (lv_at hl 0 rfl) ?_
  refine gJ5_22 C hd dJ5_ensureCapacityInternal_d00df_6 ?_
  refine lv_ishr hx hb dJ5_ensureCapacityInternal_d00df_9 ?_
  obtain ⟨v1, ev1, h⟩ := bnd_e h
  refine rTop ev1 ?_
  refine lv_istore_n (lv' := [(2, .int v1), (0, .ref (ga g 8)), (1, .int x1)]) hx hb dJ5_ensureCapacityInternal_d00df_10 rfl hl (Nat.le_of_ble_eq_true rfl) rfl (fun ls hl => ?_)
  refine lv_iload_n hx hb dJ5_ensureCapacityInternal_d00df_11 rfl (lv_at hl 2 rfl) ?_
  refine lv_iload_n hx hb dJ5_ensureCapacityInternal_d00df_12 rfl (lv_at hl 0 rfl) ?_
  refine lv_isub hx hb dJ5_ensureCapacityInternal_d00df_13 ?_
  refine lv_if_le (tgt := 38) hx hb dJ5_ensureCapacityInternal_d00df_14 (by decide) (fun c2 => ?_) (fun c2 => ?_)
  · replace h := iteT c2 h
    exact rVretS (w := wD g) C hr hd h dJ5_ensureCapacityInternal_d00df_38
  · replace h := iteF c2 h
    cases h
noncomputable def f_J5_inflateIfNeededFor_a7421 (F : Nat) (i : Nat) (σ : St) : Option Unit :=
  if (1 : Int32) = 0 then (some ()) else (cal (f_J0_coder_7d493 F i σ) (fun r2 => if (σ.1 32) = r2 then (some ()) else (none)))
set_option maxRecDepth 100000 in
set_option maxHeartbeats 4000000 in
theorem c_J5_inflateIfNeededFor_a7421 {l : Launch} {g : Gp} {X : va_W} (hE : E0 g) {i : Nat} (hi : i < 6) {F : Nat} {σ : St} (h : f_J5_inflateIfNeededFor_a7421 F i σ = some ()) : Cv l g yJ5_inflateIfNeededFor_a7421 cJ5_inflateIfNeededFor_a7421 2 1 [.ref (ga g 8), .ref (ga g (100 + i))] (wD g σ ++ X) (wD g σ ++ X) := by
  refine rHead hE (by decide +kernel) (Nat.le_of_ble_eq_true rfl) (fun p e s m below meth c C hr _ hd ls hl => ?_)
  have hx := C.1
  have hb := C.2.1
  have hl : lv_has ls 2 [(0, .ref (ga g 8)), (1, .ref (ga g (100 + i)))] := hl
  generalize ([.ref (ga g 8), .ref (ga g (100 + i))] : List Value).toArray = args at C ⊢
  have C : Cx g p s m args meth c cJ5_inflateIfNeededFor_a7421 2 RJ5 := C
  rw [f_J5_inflateIfNeededFor_a7421] at h
  refine rCS C hd (mT 291 (by decide +kernel)) dJ5_inflateIfNeededFor_a7421_0 ?_
  refine lv_if_eq (tgt := 21) hx hb dJ5_inflateIfNeededFor_a7421_3 (by decide) (fun c1 => ?_) (fun c1 => ?_)
  · replace h := iteT c1 h
    exact rVret C hr hd dJ5_inflateIfNeededFor_a7421_21
  · replace h := iteF c1 h
    refine lv_aload_n hx hb dJ5_inflateIfNeededFor_a7421_6 rfl (lv_at hl 0 rfl) ?_
    refine gJ5_22 C hd dJ5_inflateIfNeededFor_a7421_7 ?_
    refine lv_aload_n hx hb dJ5_inflateIfNeededFor_a7421_10 rfl (lv_at hl 1 rfl) ?_
    obtain ⟨r2, er2, h⟩ := cal_e h
    refine rCallSt C hd hi (c_J0_coder_7d493 hE hi er2) kJ5_40 rfl rfl hl.1 rfl (Nat.le_of_ble_eq_true rfl) ⟨(Nat.le_of_ble_eq_true rfl), (Nat.le_of_ble_eq_true rfl)⟩ ⟨Nat.le_refl _, Nat.le_refl _⟩ dJ5_inflateIfNeededFor_a7421_11 (fun H locs hd => ?_)
    refine lv_icmp_eq (tgt := 21) hx hb dJ5_inflateIfNeededFor_a7421_14 (by decide) (fun c3 => ?_) (fun c3 => ?_)
    · replace h := iteT c3 h
      exact rVret C hr hd dJ5_inflateIfNeededFor_a7421_21
    · replace h := iteF c3 h
      cases h
noncomputable def f_J5_putStringAt_47b60 (F : Nat) (i : Nat) (σ : St) (x1 : Int32) : Option St :=
  cal (f_J5_inflateIfNeededFor_a7421 F i σ) (fun t1 => cal (f_J0_getBytes_840e7 F i σ x1 (σ.1 32)) (fun t2 => some t2))
set_option maxRecDepth 100000 in
set_option maxHeartbeats 4000000 in
theorem c_J5_putStringAt_47b60 {l : Launch} {g : Gp} {X : va_W} (hE : E0 g) {i : Nat} (hi : i < 6) {F : Nat} {σ' : St} {σ : St} {x1 : Int32} (h : f_J5_putStringAt_47b60 F i σ x1 = some σ') : Cv l g yJ5_putStringAt_47b60 cJ5_putStringAt_47b60 3 3 [.ref (ga g 8), .int x1, .ref (ga g (100 + i))] (wD g σ ++ X) (wD g σ' ++ X) := by
  refine rHead hE (by decide +kernel) (Nat.le_of_ble_eq_true rfl) (fun p e s m below meth c C hr _ hd ls hl => ?_)
  have hx := C.1
  have hb := C.2.1
  have hl : lv_has ls 3 [(0, .ref (ga g 8)), (1, .int x1), (2, .ref (ga g (100 + i)))] := hl
  generalize ([.ref (ga g 8), .int x1, .ref (ga g (100 + i))] : List Value).toArray = args at C ⊢
  have C : Cx g p s m args meth c cJ5_putStringAt_47b60 3 RJ5 := C
  rw [f_J5_putStringAt_47b60] at h
  refine lv_aload_n hx hb dJ5_putStringAt_47b60_0 rfl (lv_at hl 0 rfl) ?_
  refine lv_aload_n hx hb dJ5_putStringAt_47b60_1 rfl (lv_at hl 2 rfl) ?_
  obtain ⟨t1, et1, h⟩ := cal_e h
  refine rCallCV C hd (c_J5_inflateIfNeededFor_a7421 hE hi et1) kcJ5_397 (sbSel C rfl (mT 1047 (by decide +kernel)) (mT 1048 (by decide +kernel))) 8 rfl rfl rfl hl.1 rfl (Nat.le_of_ble_eq_true rfl) ⟨(Nat.le_of_ble_eq_true rfl), (Nat.le_of_ble_eq_true rfl)⟩ ⟨Nat.le_refl _, Nat.le_refl _⟩ dJ5_putStringAt_47b60_2 (fun H locs hd => ?_)
  refine lv_aload_n hx hb dJ5_putStringAt_47b60_5 rfl (lv_at hl 2 rfl) ?_
  refine lv_aload_n hx hb dJ5_putStringAt_47b60_6 rfl (lv_at hl 0 rfl) ?_
  refine gJ5_15 C hd dJ5_putStringAt_47b60_7 ?_
  refine lv_iload_n hx hb dJ5_putStringAt_47b60_10 rfl (lv_at hl 1 rfl) ?_
  refine lv_aload_n hx hb dJ5_putStringAt_47b60_11 rfl (lv_at hl 0 rfl) ?_
  refine gJ5_22 C hd dJ5_putStringAt_47b60_12 ?_
  obtain ⟨t2, et2, h⟩ := cal_e h
  refine rCallStV C hd hi (c_J0_getBytes_840e7 hE hi et2) kJ5_399 rfl rfl hl.1 rfl (Nat.le_of_ble_eq_true rfl) ⟨(Nat.le_of_ble_eq_true rfl), (Nat.le_of_ble_eq_true rfl)⟩ ⟨Nat.le_refl _, Nat.le_refl _⟩ dJ5_putStringAt_47b60_15 (fun H locs hd => ?_)
  exact rVretS (w := wD g) C hr hd h dJ5_putStringAt_47b60_18
noncomputable def f_J5_append_cf1ce (F : Nat) (i : Nat) (σ : St) : Option St :=
  cal (f_J0_length_8abf5 F i σ) (fun r1 => cal (f_J5_ensureCapacityInternal_d00df F σ ((σ.1 34) + r1)) (fun t2 => cal (f_J5_putStringAt_47b60 F i t2 (t2.1 34)) (fun t3 => bnd (ss t3 34 ((t3.1 34) + r1)) (fun t4 => some t4))))
set_option maxRecDepth 100000 in
set_option maxHeartbeats 4000000 in
theorem c_J5_append_cf1ce {l : Launch} {g : Gp} {X : va_W} (hE : E0 g) {i : Nat} (hi : i < 6) {F : Nat} {σ' : St} {σ : St} (h : f_J5_append_cf1ce F i σ = some σ') : Cr l g yJ5_append_cf1ce cJ5_append_cf1ce 3 (some (.object "java/lang/AbstractStringBuilder")) 4 [.ref (ga g 8), .ref (ga g (100 + i))] (wD g σ ++ X) (ga g 8) (wD g σ' ++ X) := by
  refine rHead hE (by decide +kernel) (Nat.le_of_ble_eq_true rfl) (fun p e s m below meth c C hr _ hd ls hl => ?_)
  have hx := C.1
  have hb := C.2.1
  have hl : lv_has ls 3 [(0, .ref (ga g 8)), (1, .ref (ga g (100 + i)))] := hl
  generalize ([.ref (ga g 8), .ref (ga g (100 + i))] : List Value).toArray = args at C ⊢
  have C : Cx g p s m args meth c cJ5_append_cf1ce 3 RJ5 := C
  rw [f_J5_append_cf1ce] at h
  refine lv_aload_n hx hb dJ5_append_cf1ce_0 rfl (lv_at hl 1 rfl) ?_
  refine lv_ifnonnull (tgt := 9) hx hb dJ5_append_cf1ce_1 (by decide) ?_
  refine lv_aload_n hx hb dJ5_append_cf1ce_9 rfl (lv_at hl 1 rfl) ?_
  obtain ⟨r1, er1, h⟩ := cal_e h
  refine rCallSt C hd hi (c_J0_length_8abf5 hE hi er1) kJ5_32 rfl rfl hl.1 rfl (Nat.le_of_ble_eq_true rfl) ⟨(Nat.le_of_ble_eq_true rfl), (Nat.le_of_ble_eq_true rfl)⟩ ⟨Nat.le_refl _, Nat.le_refl _⟩ dJ5_append_cf1ce_10 (fun H locs hd => ?_)
  refine lv_istore_n (lv' := [(2, .int r1), (0, .ref (ga g 8)), (1, .ref (ga g (100 + i)))]) hx hb dJ5_append_cf1ce_13 rfl hl (Nat.le_of_ble_eq_true rfl) rfl (fun ls hl => ?_)
  refine lv_aload_n hx hb dJ5_append_cf1ce_14 rfl (lv_at hl 1 rfl) ?_
  refine lv_aload_n hx hb dJ5_append_cf1ce_15 rfl (lv_at hl 1 rfl) ?_
  refine gJ5_79 C hd dJ5_append_cf1ce_16 ?_
  refine lv_iload_n hx hb dJ5_append_cf1ce_19 rfl (lv_at hl 0 rfl) ?_
  refine lv_iadd hx hb dJ5_append_cf1ce_20 ?_
  obtain ⟨t2, et2, h⟩ := cal_e h
  refine rCallCV C hd (c_J5_ensureCapacityInternal_d00df hE et2) kcJ5_100 (sbSel C rfl (mT 975 (by decide +kernel)) (mT 976 (by decide +kernel))) 8 rfl rfl rfl hl.1 rfl (Nat.le_of_ble_eq_true rfl) ⟨(Nat.le_of_ble_eq_true rfl), (Nat.le_of_ble_eq_true rfl)⟩ ⟨Nat.le_refl _, Nat.le_refl _⟩ dJ5_append_cf1ce_21 (fun H locs hd => ?_)
  refine lv_aload_n hx hb dJ5_append_cf1ce_24 rfl (lv_at hl 1 rfl) ?_
  refine lv_aload_n hx hb dJ5_append_cf1ce_25 rfl (lv_at hl 1 rfl) ?_
  refine gJ5_79 C hd dJ5_append_cf1ce_26 ?_
  refine lv_aload_n hx hb dJ5_append_cf1ce_29 rfl (lv_at hl 2 rfl) ?_
  obtain ⟨t3, et3, h⟩ := cal_e h
  refine rCallCV C hd (c_J5_putStringAt_47b60 hE hi et3) kcJ5_208 (sbSel C rfl (mT 1043 (by decide +kernel)) (mT 1044 (by decide +kernel))) 8 rfl rfl rfl hl.1 rfl (Nat.le_of_ble_eq_true rfl) ⟨(Nat.le_of_ble_eq_true rfl), (Nat.le_of_ble_eq_true rfl)⟩ ⟨Nat.le_refl _, Nat.le_refl _⟩ dJ5_append_cf1ce_30 (fun H locs hd => ?_)
  refine lv_aload_n hx hb dJ5_append_cf1ce_33 rfl (lv_at hl 1 rfl) ?_
  refine lv_dup hx hb dJ5_append_cf1ce_34 rfl ?_
  refine gJ5_79 C hd dJ5_append_cf1ce_35 ?_
  refine lv_iload_n hx hb dJ5_append_cf1ce_38 rfl (lv_at hl 0 rfl) ?_
  refine lv_iadd hx hb dJ5_append_cf1ce_39 ?_
  obtain ⟨t4, et4, h⟩ := bnd_e h
  refine pJ5_79 C hd et4 dJ5_append_cf1ce_40 (fun H locs hd => ?_)
  refine lv_aload_n hx hb dJ5_append_cf1ce_43 rfl (lv_at hl 1 rfl) ?_
  exact rAretS (w := wD g) C hr hd h dJ5_append_cf1ce_44
noncomputable def f_J4_append_15ec4 (F : Nat) (i : Nat) (σ : St) : Option St :=
  cal (f_J5_append_cf1ce F i σ) (fun t1 => some t1)
set_option maxRecDepth 100000 in
set_option maxHeartbeats 4000000 in
theorem c_J4_append_15ec4 {l : Launch} {g : Gp} {X : va_W} (hE : E0 g) {i : Nat} (hi : i < 6) {F : Nat} {σ' : St} {σ : St} (h : f_J4_append_15ec4 F i σ = some σ') : Cr l g yJ4_append_15ec4 cJ4_append_15ec4 2 (some (.object "java/lang/StringBuilder")) 5 [.ref (ga g 8), .ref (ga g (100 + i))] (wD g σ ++ X) (ga g 8) (wD g σ' ++ X) := by
  refine rHead hE (by decide +kernel) (Nat.le_of_ble_eq_true rfl) (fun p e s m below meth c C hr _ hd ls hl => ?_)
  have hx := C.1
  have hb := C.2.1
  have hl : lv_has ls 2 [(0, .ref (ga g 8)), (1, .ref (ga g (100 + i)))] := hl
  generalize ([.ref (ga g 8), .ref (ga g (100 + i))] : List Value).toArray = args at C ⊢
  have C : Cx g p s m args meth c cJ4_append_15ec4 2 RJ4 := C
  rw [f_J4_append_15ec4] at h
  refine lv_aload_n hx hb dJ4_append_15ec4_0 rfl (lv_at hl 0 rfl) ?_
  refine lv_aload_n hx hb dJ4_append_15ec4_1 rfl (lv_at hl 1 rfl) ?_
  obtain ⟨t1, et1, h⟩ := cal_e h
  refine rCallUR C hd (c_J5_append_cf1ce hE hi et1) uJ4_29 8 rfl rfl rfl hl.1 rfl (Nat.le_of_ble_eq_true rfl) ⟨(Nat.le_of_ble_eq_true rfl), (Nat.le_of_ble_eq_true rfl)⟩ ⟨Nat.le_refl _, Nat.le_refl _⟩ dJ4_append_15ec4_2 (fun H locs hd => ?_)
  refine lv_pop hx hb dJ4_append_15ec4_5 rfl ?_
  refine lv_aload_n hx hb dJ4_append_15ec4_6 rfl (lv_at hl 0 rfl) ?_
  exact rAretS (w := wD g) C hr hd h dJ4_append_15ec4_7
noncomputable def f_J6_stringSize_0f7a4_16 (F : Nat) : Nat → St → Int32 → Int32 → Int32 → Int32 → Option Int32
  | 0, _, _, _, _, _ => none
  | n + 1, σ, x0, x1, x2, x3 => if 10 ≤ x3 then (some (10 + x1)) else (if x0 ≤ x2 then (bnd (10 * x2) (fun v3 => bnd (x3 + 1) (fun v4 => f_J6_stringSize_0f7a4_16 F n σ x0 x1 v3 v4))) else (some (x3 + x1)))
set_option maxRecDepth 100000 in
set_option maxHeartbeats 4000000 in
theorem w_J6_stringSize_0f7a4_16 {F : Nat} {r' : Int32}  (C : Cx g p s m args meth c cJ6_stringSize_0f7a4 4 RJ6) (hr : meth.sig.returnType = some .int) :
    (∀ (n : Nat) (σ : St) (x0 : Int32) (x1 : Int32) (x2 : Int32) (x3 : Int32), f_J6_stringSize_0f7a4_16 F n σ x0 x1 x2 x3 = some r' → ∀ (H : Heap) (locs : List Loc) (ls : Array Slot), Dy g (wD g σ ++ X) s H locs → lv_has ls 4 [(0, .int x0), (1, .int x1), (2, .int x2), (3, .int x3)] → W p l e (rmD 0) s m args below meth c H locs 0 0 (QI g below args s (wD g σ ++ X) r') (F0 m 16 ls [])) := by
  have hx := C.1
  have hb := C.2.1
  have hE := C.2.2.2.2.2.2.2.2
  intro n
  induction n with
  | zero =>
    intro σ x0 x1 x2 x3 h
    cases h
  | succ n ih =>
    intro σ x0 x1 x2 x3 h H locs ls hd hl
    rw [f_J6_stringSize_0f7a4_16] at h
    refine lv_iload_n hx hb dJ6_stringSize_0f7a4_16 rfl (lv_at hl 3 rfl) ?_
    refine lv_bipush (v := 10) hx hb dJ6_stringSize_0f7a4_17 bi_10 ?_
    refine lv_icmp_ge (tgt := 42) hx hb dJ6_stringSize_0f7a4_19 (by decide) (fun c1 => ?_) (fun c1 => ?_)
    · replace h := iteT c1 h
      refine lv_bipush (v := 10) hx hb dJ6_stringSize_0f7a4_42 bi_10 ?_
      refine lv_iload_n hx hb dJ6_stringSize_0f7a4_44 rfl (lv_at hl 1 rfl) ?_
      refine lv_iadd hx hb dJ6_stringSize_0f7a4_45 ?_
      exact rIretP C hr hd h dJ6_stringSize_0f7a4_46
    · replace h := iteF c1 h
      refine lv_iload_n hx hb dJ6_stringSize_0f7a4_22 rfl (lv_at hl 0 rfl) ?_
      refine lv_iload_n hx hb dJ6_stringSize_0f7a4_23 rfl (lv_at hl 2 rfl) ?_
      refine lv_icmp_le (tgt := 31) hx hb dJ6_stringSize_0f7a4_24 (by decide) (fun c2 => ?_) (fun c2 => ?_)
      · replace h := iteT c2 h
        refine lv_bipush (v := 10) hx hb dJ6_stringSize_0f7a4_31 bi_10 ?_
        refine lv_iload_n hx hb dJ6_stringSize_0f7a4_33 rfl (lv_at hl 2 rfl) ?_
        refine lv_imul hx hb dJ6_stringSize_0f7a4_34 ?_
        obtain ⟨v3, ev3, h⟩ := bnd_e h
        refine rTop ev3 ?_
        refine lv_istore_n (lv' := [(2, .int v3), (0, .int x0), (1, .int x1), (3, .int x3)]) hx hb dJ6_stringSize_0f7a4_35 rfl hl (Nat.le_of_ble_eq_true rfl) rfl (fun ls hl => ?_)
        obtain ⟨v4, ev4, h⟩ := bnd_e h
        refine lv_iinc (v := v4) (lv' := [(3, .int v4), (2, .int v3), (0, .int x0), (1, .int x1)]) hx hb dJ6_stringSize_0f7a4_36 hl (k := 3) rfl ((ii_1 _).trans ev4.symm) (Nat.le_of_ble_eq_true rfl) rfl (fun ls hl => ?_)
        refine lv_goto (tgt := 16) hx hb dJ6_stringSize_0f7a4_39 (by decide) ?_
        exact ih σ x0 x1 v3 v4 h _ _ _ hd (lv_sub hl [2, 3, 1, 0] rfl)
      · replace h := iteF c2 h
        refine lv_iload_n hx hb dJ6_stringSize_0f7a4_27 rfl (lv_at hl 3 rfl) ?_
        refine lv_iload_n hx hb dJ6_stringSize_0f7a4_28 rfl (lv_at hl 1 rfl) ?_
        refine lv_iadd hx hb dJ6_stringSize_0f7a4_29 ?_
        exact rIretP C hr hd h dJ6_stringSize_0f7a4_30
noncomputable def f_J6_stringSize_0f7a4_11 (F : Nat) (σ : St) (x0 : Int32) (x1 : Int32) : Option Int32 :=
  f_J6_stringSize_0f7a4_16 F F σ x0 x1 (-10 : Int32) 1
set_option maxRecDepth 100000 in
set_option maxHeartbeats 4000000 in
theorem w_J6_stringSize_0f7a4_11 {F : Nat} {r' : Int32}  (C : Cx g p s m args meth c cJ6_stringSize_0f7a4 4 RJ6) (hr : meth.sig.returnType = some .int) :
    (∀ (σ : St) (x0 : Int32) (x1 : Int32), f_J6_stringSize_0f7a4_11 F σ x0 x1 = some r' → ∀ (H : Heap) (locs : List Loc) (ls : Array Slot), Dy g (wD g σ ++ X) s H locs → lv_has ls 4 [(0, .int x0), (1, .int x1)] → W p l e (rmD 0) s m args below meth c H locs 0 0 (QI g below args s (wD g σ ++ X) r') (F0 m 11 ls [])) := by
  have hx := C.1
  have hb := C.2.1
  have hE := C.2.2.2.2.2.2.2.2
  intro σ x0 x1 h H locs ls hd hl
  rw [f_J6_stringSize_0f7a4_11] at h
  refine lv_bipush (v := (-10 : Int32)) hx hb dJ6_stringSize_0f7a4_11 bi_m10 ?_
  refine lv_istore_n (lv' := [(2, .int (-10 : Int32)), (0, .int x0), (1, .int x1)]) hx hb dJ6_stringSize_0f7a4_13 rfl hl (Nat.le_of_ble_eq_true rfl) rfl (fun ls hl => ?_)
  refine lv_iconst (v := 1) hx hb dJ6_stringSize_0f7a4_14 ic_1 ?_
  refine lv_istore_n (lv' := [(3, .int 1), (2, .int (-10 : Int32)), (0, .int x0), (1, .int x1)]) hx hb dJ6_stringSize_0f7a4_15 rfl hl (Nat.le_of_ble_eq_true rfl) rfl (fun ls hl => ?_)
  exact w_J6_stringSize_0f7a4_16 C hr _ σ x0 x1 (-10 : Int32) 1 h _ _ _ hd (lv_sub hl [2, 3, 1, 0] rfl)
noncomputable def f_J6_stringSize_0f7a4 (F : Nat) (σ : St) (x0 : Int32) : Option Int32 :=
  if x0 < 0 then (f_J6_stringSize_0f7a4_11 F σ x0 1) else (bnd (-x0) (fun v2 => f_J6_stringSize_0f7a4_11 F σ v2 0))
set_option maxRecDepth 100000 in
set_option maxHeartbeats 4000000 in
theorem c_J6_stringSize_0f7a4 {l : Launch} {g : Gp} {X : va_W} (hE : E0 g) {F : Nat} {r' : Int32} {σ : St} {x0 : Int32} (h : f_J6_stringSize_0f7a4 F σ x0 = some r') : Ci l g yJ6_stringSize_0f7a4 cJ6_stringSize_0f7a4 4 (some .int) 0 [.int x0] (wD g σ ++ X) r' (wD g σ ++ X) := by
  refine rHead hE (by decide +kernel) (Nat.le_of_ble_eq_true rfl) (fun p e s m below meth c C hr _ hd ls hl => ?_)
  have hx := C.1
  have hb := C.2.1
  have hl : lv_has ls 4 [(0, .int x0)] := hl
  generalize ([.int x0] : List Value).toArray = args at C ⊢
  have C : Cx g p s m args meth c cJ6_stringSize_0f7a4 4 RJ6 := C
  rw [f_J6_stringSize_0f7a4] at h
  refine lv_iconst (v := 1) hx hb dJ6_stringSize_0f7a4_0 ic_1 ?_
  refine lv_istore_n (lv' := [(1, .int 1), (0, .int x0)]) hx hb dJ6_stringSize_0f7a4_1 rfl hl (Nat.le_of_ble_eq_true rfl) rfl (fun ls hl => ?_)
  refine lv_iload_n hx hb dJ6_stringSize_0f7a4_2 rfl (lv_at hl 1 rfl) ?_
  refine lv_if_lt (tgt := 11) hx hb dJ6_stringSize_0f7a4_3 (by decide) (fun c1 => ?_) (fun c1 => ?_)
  · replace h := iteT c1 h
    exact w_J6_stringSize_0f7a4_11 C hr σ x0 1 h _ _ _ hd (lv_sub hl [1, 0] rfl)
  · replace h := iteF c1 h
    refine lv_iconst (v := 0) hx hb dJ6_stringSize_0f7a4_6 ic_0 ?_
    refine lv_istore_n (lv' := [(1, .int 0), (0, .int x0)]) hx hb dJ6_stringSize_0f7a4_7 rfl hl (Nat.le_of_ble_eq_true rfl) rfl (fun ls hl => ?_)
    refine lv_iload_n hx hb dJ6_stringSize_0f7a4_8 rfl (lv_at hl 1 rfl) ?_
    refine lv_ineg hx hb dJ6_stringSize_0f7a4_9 ?_
    obtain ⟨v2, ev2, h⟩ := bnd_e h
    refine rTop ev2 ?_
    refine lv_istore_n (lv' := [(0, .int v2), (1, .int 0)]) hx hb dJ6_stringSize_0f7a4_10 rfl hl (Nat.le_of_ble_eq_true rfl) rfl (fun ls hl => ?_)
    exact w_J6_stringSize_0f7a4_11 C hr σ v2 0 h _ _ _ hd (lv_sub hl [0, 1] rfl)
noncomputable def f_J5_isLatin1_aae02 (F : Nat) (σ : St) : Option Int32 :=
  if (1 : Int32) = 0 then (some 0) else (if (σ.1 32) = 0 then (some 1) else (some 0))
set_option maxRecDepth 100000 in
set_option maxHeartbeats 4000000 in
theorem c_J5_isLatin1_aae02 {l : Launch} {g : Gp} {X : va_W} (hE : E0 g) {F : Nat} {r' : Int32} {σ : St} (h : f_J5_isLatin1_aae02 F σ = some r') : Ci l g yJ5_isLatin1_aae02 cJ5_isLatin1_aae02 1 (some .boolean) 0 [.ref (ga g 8)] (wD g σ ++ X) r' (wD g σ ++ X) := by
  refine rHead hE (by decide +kernel) (Nat.le_of_ble_eq_true rfl) (fun p e s m below meth c C hr _ hd ls hl => ?_)
  have hx := C.1
  have hb := C.2.1
  have hl : lv_has ls 1 [(0, .ref (ga g 8))] := hl
  generalize ([.ref (ga g 8)] : List Value).toArray = args at C ⊢
  have C : Cx g p s m args meth c cJ5_isLatin1_aae02 1 RJ5 := C
  rw [f_J5_isLatin1_aae02] at h
  refine rCS C hd (mT 291 (by decide +kernel)) dJ5_isLatin1_aae02_0 ?_
  refine lv_if_eq (tgt := 17) hx hb dJ5_isLatin1_aae02_3 (by decide) (fun c1 => ?_) (fun c1 => ?_)
  · replace h := iteT c1 h
    refine lv_iconst (v := 0) hx hb dJ5_isLatin1_aae02_17 ic_0 ?_
    exact rZretP C hr hd h (by decide) dJ5_isLatin1_aae02_18
  · replace h := iteF c1 h
    refine lv_aload_n hx hb dJ5_isLatin1_aae02_6 rfl (lv_at hl 0 rfl) ?_
    refine gJ5_22 C hd dJ5_isLatin1_aae02_7 ?_
    refine lv_if_ne (tgt := 17) hx hb dJ5_isLatin1_aae02_10 (by decide) (fun c2 => ?_) (fun c2 => ?_)
    · replace h := iteF c2 h
      refine lv_iconst (v := 0) hx hb dJ5_isLatin1_aae02_17 ic_0 ?_
      exact rZretP C hr hd h (by decide) dJ5_isLatin1_aae02_18
    · replace h := iteT c2 h
      refine lv_iconst (v := 1) hx hb dJ5_isLatin1_aae02_13 ic_1 ?_
      refine lv_goto (tgt := 18) hx hb dJ5_isLatin1_aae02_14 (by decide) ?_
      exact rZretP C hr hd h (by decide) dJ5_isLatin1_aae02_18
noncomputable def f_J6_getChars_ba4f3_104 (F : Nat) (σ : St) (x5 : Int32) (x6 : Int32) : Option (Int32 × St) :=
  if x6 = 0 then (some (x5, σ)) else (bnd (x5 + (-1 : Int32)) (fun v2 => if inb v2 16 = true then bnd (sr σ 33 v2.toNatClampNeg (vp_nar .byte 45)) (fun t4 => some (v2, t4)) else none))
set_option maxRecDepth 100000 in
set_option maxHeartbeats 4000000 in
theorem w_J6_getChars_ba4f3_104 {F : Nat} {r' : Int32} {σ' : St}  (C : Cx g p s m args meth c cJ6_getChars_ba4f3 7 RJ6) (hr : meth.sig.returnType = some .int) :
    (∀ (σ : St) (x5 : Int32) (x6 : Int32), f_J6_getChars_ba4f3_104 F σ x5 x6 = some (r', σ') → ∀ (H : Heap) (locs : List Loc) (ls : Array Slot), Dy g (wD g σ ++ X) s H locs → lv_has ls 7 [(2, .ref (ga g 33)), (5, .int x5), (6, .int x6)] → W p l e (rmD 0) s m args below meth c H locs 0 0 (QI g below args s (wD g σ' ++ X) r') (F0 m 104 ls [])) := by
  have hx := C.1
  have hb := C.2.1
  have hE := C.2.2.2.2.2.2.2.2
  intro σ x5 x6 h H locs ls hd hl
  rw [f_J6_getChars_ba4f3_104] at h
  refine lv_iload hx hb dJ6_getChars_ba4f3_104 (lv_at hl 2 rfl) ?_
  refine lv_if_eq (tgt := 118) hx hb dJ6_getChars_ba4f3_106 (by decide) (fun c1 => ?_) (fun c1 => ?_)
  · replace h := iteT c1 h
    refine lv_iload hx hb dJ6_getChars_ba4f3_118 (lv_at hl 1 rfl) ?_
    exact rIretS (w := wD g) C hr hd h dJ6_getChars_ba4f3_120
  · replace h := iteF c1 h
    refine lv_aload_n hx hb dJ6_getChars_ba4f3_109 rfl (lv_at hl 0 rfl) ?_
    obtain ⟨v2, ev2, h⟩ := bnd_e h
    refine lv_iinc (v := v2) (lv' := [(5, .int v2), (2, .ref (ga g 33)), (6, .int x6)]) hx hb dJ6_getChars_ba4f3_110 hl (k := 1) rfl ((ii_m1 _).trans ev2.symm) (Nat.le_of_ble_eq_true rfl) rfl (fun ls hl => ?_)
    refine lv_iload hx hb dJ6_getChars_ba4f3_113 (lv_at hl 0 rfl) ?_
    refine lv_bipush (v := 45) hx hb dJ6_getChars_ba4f3_115 bi_45 ?_
    obtain ⟨n3, h⟩ := chk h
    obtain ⟨t4, et4, h⟩ := bnd_e h
    refine st_wD_33 C hd (inb_i n3) et4 dJ6_getChars_ba4f3_117 (fun H locs hd => ?_)
    refine lv_iload hx hb dJ6_getChars_ba4f3_118 (lv_at hl 0 rfl) ?_
    exact rIretS (w := wD g) C hr hd h dJ6_getChars_ba4f3_120
noncomputable def f_J6_getChars_ba4f3_22 (F : Nat) : Nat → St → Int32 → Int32 → Int32 → Option (Int32 × St)
  | 0, _, _, _, _ => none
  | n + 1, σ, x0, x5, x6 => if (-100 : Int32) < x0 then (bnd (x5 + (-1 : Int32)) (fun v2 => if inb (-x0) 100 = true then if inb v2 16 = true then bnd (sr σ 33 v2.toNatClampNeg (vp_nar .byte (digO (-x0).toNatClampNeg))) (fun t6 => if (-9 : Int32) ≤ x0 then (f_J6_getChars_ba4f3_104 F t6 v2 x6) else (bnd (v2 + (-1 : Int32)) (fun v8 => if inb (-x0) 100 = true then if inb v8 16 = true then bnd (sr t6 33 v8.toNatClampNeg (vp_nar .byte (digT (-x0).toNatClampNeg))) (fun t12 => f_J6_getChars_ba4f3_104 F t12 v8 x6) else none else none))) else none else none)) else (bnd (x0 / 100) (fun v13 => bnd ((v13 * 100) - x0) (fun v14 => bnd (x5 + (-1 : Int32)) (fun v15 => if inb v14 100 = true then if inb v15 16 = true then bnd (sr σ 33 v15.toNatClampNeg (vp_nar .byte (digO v14.toNatClampNeg))) (fun t19 => bnd (v15 + (-1 : Int32)) (fun v20 => if inb v14 100 = true then if inb v20 16 = true then bnd (sr t19 33 v20.toNatClampNeg (vp_nar .byte (digT v14.toNatClampNeg))) (fun t24 => f_J6_getChars_ba4f3_22 F n t24 v13 v20 x6) else none else none)) else none else none))))
set_option maxRecDepth 100000 in
set_option maxHeartbeats 4000000 in
theorem w_J6_getChars_ba4f3_22 {F : Nat} {r' : Int32} {σ' : St}  (C : Cx g p s m args meth c cJ6_getChars_ba4f3 7 RJ6) (hr : meth.sig.returnType = some .int) :
    (∀ (n : Nat) (σ : St) (x0 : Int32) (x5 : Int32) (x6 : Int32), f_J6_getChars_ba4f3_22 F n σ x0 x5 x6 = some (r', σ') → ∀ (H : Heap) (locs : List Loc) (ls : Array Slot), Dy g (wD g σ ++ X) s H locs → lv_has ls 7 [(0, .int x0), (2, .ref (ga g 33)), (5, .int x5), (6, .int x6)] → W p l e (rmD 0) s m args below meth c H locs 0 0 (QI g below args s (wD g σ' ++ X) r') (F0 m 22 ls [])) := by
  have hx := C.1
  have hb := C.2.1
  have hE := C.2.2.2.2.2.2.2.2
  intro n
  induction n with
  | zero =>
    intro σ x0 x5 x6 h
    cases h
  | succ n ih =>
    intro σ x0 x5 x6 h H locs ls hd hl
    rw [f_J6_getChars_ba4f3_22] at h
    refine lv_iload_n hx hb dJ6_getChars_ba4f3_22 rfl (lv_at hl 0 rfl) ?_
    refine lv_bipush (v := (-100 : Int32)) hx hb dJ6_getChars_ba4f3_23 bi_m100 ?_
    refine lv_icmp_gt (tgt := 72) hx hb dJ6_getChars_ba4f3_25 (by decide) (fun c1 => ?_) (fun c1 => ?_)
    · replace h := iteT c1 h
      refine lv_aload_n hx hb dJ6_getChars_ba4f3_72 rfl (lv_at hl 1 rfl) ?_
      obtain ⟨v2, ev2, h⟩ := bnd_e h
      refine lv_iinc (v := v2) (lv' := [(5, .int v2), (0, .int x0), (2, .ref (ga g 33)), (6, .int x6)]) hx hb dJ6_getChars_ba4f3_73 hl (k := 2) rfl ((ii_m1 _).trans ev2.symm) (Nat.le_of_ble_eq_true rfl) rfl (fun ls hl => ?_)
      refine lv_iload hx hb dJ6_getChars_ba4f3_76 (lv_at hl 0 rfl) ?_
      obtain ⟨aq3, hq3, jq3⟩ := digOZ C
      refine rDigGet C hd hq3 (mT 1105 (by decide +kernel)) dJ6_getChars_ba4f3_78 ?_
      refine lv_iload_n hx hb dJ6_getChars_ba4f3_81 rfl (lv_at hl 1 rfl) ?_
      refine lv_ineg hx hb dJ6_getChars_ba4f3_82 ?_
      obtain ⟨n4, h⟩ := chk h
      refine rDigLd C hd jq3 (inb_i n4) dJ6_getChars_ba4f3_83 ?_
      obtain ⟨n5, h⟩ := chk h
      obtain ⟨t6, et6, h⟩ := bnd_e h
      refine st_wD_33 C hd (inb_i n5) et6 dJ6_getChars_ba4f3_84 (fun H locs hd => ?_)
      refine lv_iload_n hx hb dJ6_getChars_ba4f3_85 rfl (lv_at hl 1 rfl) ?_
      refine lv_bipush (v := (-9 : Int32)) hx hb dJ6_getChars_ba4f3_86 bi_m9 ?_
      refine lv_icmp_ge (tgt := 104) hx hb dJ6_getChars_ba4f3_88 (by decide) (fun c7 => ?_) (fun c7 => ?_)
      · replace h := iteT c7 h
        exact w_J6_getChars_ba4f3_104 C hr t6 v2 x6 h _ _ _ hd (lv_sub hl [2, 0, 3] rfl)
      · replace h := iteF c7 h
        refine lv_aload_n hx hb dJ6_getChars_ba4f3_91 rfl (lv_at hl 2 rfl) ?_
        obtain ⟨v8, ev8, h⟩ := bnd_e h
        refine lv_iinc (v := v8) (lv' := [(5, .int v8), (0, .int x0), (2, .ref (ga g 33)), (6, .int x6)]) hx hb dJ6_getChars_ba4f3_92 hl (k := 0) rfl ((ii_m1 _).trans ev8.symm) (Nat.le_of_ble_eq_true rfl) rfl (fun ls hl => ?_)
        refine lv_iload hx hb dJ6_getChars_ba4f3_95 (lv_at hl 0 rfl) ?_
        obtain ⟨aq9, hq9, jq9⟩ := digTZ C
        refine rDigGet C hd hq9 (mT 1107 (by decide +kernel)) dJ6_getChars_ba4f3_97 ?_
        refine lv_iload_n hx hb dJ6_getChars_ba4f3_100 rfl (lv_at hl 1 rfl) ?_
        refine lv_ineg hx hb dJ6_getChars_ba4f3_101 ?_
        obtain ⟨n10, h⟩ := chk h
        refine rDigLd C hd jq9 (inb_i n10) dJ6_getChars_ba4f3_102 ?_
        obtain ⟨n11, h⟩ := chk h
        obtain ⟨t12, et12, h⟩ := bnd_e h
        refine st_wD_33 C hd (inb_i n11) et12 dJ6_getChars_ba4f3_103 (fun H locs hd => ?_)
        exact w_J6_getChars_ba4f3_104 C hr t12 v8 x6 h _ _ _ hd (lv_sub hl [2, 0, 3] rfl)
    · replace h := iteF c1 h
      refine lv_iload_n hx hb dJ6_getChars_ba4f3_28 rfl (lv_at hl 0 rfl) ?_
      refine lv_bipush (v := 100) hx hb dJ6_getChars_ba4f3_29 bi_100 ?_
      refine lv_idiv hx hb dJ6_getChars_ba4f3_31 (by decide) ?_
      obtain ⟨v13, ev13, h⟩ := bnd_e h
      refine rTop ev13 ?_
      refine lv_istore_n (lv' := [(3, .int v13), (0, .int x0), (2, .ref (ga g 33)), (5, .int x5), (6, .int x6)]) hx hb dJ6_getChars_ba4f3_32 rfl hl (Nat.le_of_ble_eq_true rfl) rfl (fun ls hl => ?_)
      refine lv_iload_n hx hb dJ6_getChars_ba4f3_33 rfl (lv_at hl 0 rfl) ?_
      refine lv_bipush (v := 100) hx hb dJ6_getChars_ba4f3_34 bi_100 ?_
      refine lv_imul hx hb dJ6_getChars_ba4f3_36 ?_
      refine lv_iload_n hx hb dJ6_getChars_ba4f3_37 rfl (lv_at hl 1 rfl) ?_
      refine lv_isub hx hb dJ6_getChars_ba4f3_38 ?_
      obtain ⟨v14, ev14, h⟩ := bnd_e h
      refine rTop ev14 ?_
      refine lv_istore (lv' := [(4, .int v14), (3, .int v13), (0, .int x0), (2, .ref (ga g 33)), (5, .int x5), (6, .int x6)]) hx hb dJ6_getChars_ba4f3_39 hl (Nat.le_of_ble_eq_true rfl) rfl (fun ls hl => ?_)
      refine lv_iload_n hx hb dJ6_getChars_ba4f3_41 rfl (lv_at hl 1 rfl) ?_
      refine lv_istore_n (lv' := [(0, .int v13), (4, .int v14), (3, .int v13), (2, .ref (ga g 33)), (5, .int x5), (6, .int x6)]) hx hb dJ6_getChars_ba4f3_42 rfl hl (Nat.le_of_ble_eq_true rfl) rfl (fun ls hl => ?_)
      refine lv_aload_n hx hb dJ6_getChars_ba4f3_43 rfl (lv_at hl 3 rfl) ?_
      obtain ⟨v15, ev15, h⟩ := bnd_e h
      refine lv_iinc (v := v15) (lv' := [(5, .int v15), (0, .int v13), (4, .int v14), (3, .int v13), (2, .ref (ga g 33)), (6, .int x6)]) hx hb dJ6_getChars_ba4f3_44 hl (k := 4) rfl ((ii_m1 _).trans ev15.symm) (Nat.le_of_ble_eq_true rfl) rfl (fun ls hl => ?_)
      refine lv_iload hx hb dJ6_getChars_ba4f3_47 (lv_at hl 0 rfl) ?_
      obtain ⟨aq16, hq16, jq16⟩ := digOZ C
      refine rDigGet C hd hq16 (mT 1105 (by decide +kernel)) dJ6_getChars_ba4f3_49 ?_
      refine lv_iload hx hb dJ6_getChars_ba4f3_52 (lv_at hl 2 rfl) ?_
      obtain ⟨n17, h⟩ := chk h
      refine rDigLd C hd jq16 (inb_i n17) dJ6_getChars_ba4f3_54 ?_
      obtain ⟨n18, h⟩ := chk h
      obtain ⟨t19, et19, h⟩ := bnd_e h
      refine st_wD_33 C hd (inb_i n18) et19 dJ6_getChars_ba4f3_55 (fun H locs hd => ?_)
      refine lv_aload_n hx hb dJ6_getChars_ba4f3_56 rfl (lv_at hl 4 rfl) ?_
      obtain ⟨v20, ev20, h⟩ := bnd_e h
      refine lv_iinc (v := v20) (lv' := [(5, .int v20), (0, .int v13), (4, .int v14), (3, .int v13), (2, .ref (ga g 33)), (6, .int x6)]) hx hb dJ6_getChars_ba4f3_57 hl (k := 0) rfl ((ii_m1 _).trans ev20.symm) (Nat.le_of_ble_eq_true rfl) rfl (fun ls hl => ?_)
      refine lv_iload hx hb dJ6_getChars_ba4f3_60 (lv_at hl 0 rfl) ?_
      obtain ⟨aq21, hq21, jq21⟩ := digTZ C
      refine rDigGet C hd hq21 (mT 1107 (by decide +kernel)) dJ6_getChars_ba4f3_62 ?_
      refine lv_iload hx hb dJ6_getChars_ba4f3_65 (lv_at hl 2 rfl) ?_
      obtain ⟨n22, h⟩ := chk h
      refine rDigLd C hd jq21 (inb_i n22) dJ6_getChars_ba4f3_67 ?_
      obtain ⟨n23, h⟩ := chk h
      obtain ⟨t24, et24, h⟩ := bnd_e h
      refine st_wD_33 C hd (inb_i n23) et24 dJ6_getChars_ba4f3_68 (fun H locs hd => ?_)
      refine lv_goto (tgt := 22) hx hb dJ6_getChars_ba4f3_69 (by decide) ?_
      exact ih t24 v13 v20 x6 h _ _ _ hd (lv_sub hl [1, 4, 0, 5] rfl)
noncomputable def f_J6_getChars_ba4f3_12 (F : Nat) (σ : St) (x0 : Int32) (x5 : Int32) (y0 : Int32) : Option (Int32 × St) :=
  if y0 = 0 then (bnd (-x0) (fun v2 => f_J6_getChars_ba4f3_22 F F σ v2 x5 y0)) else (f_J6_getChars_ba4f3_22 F F σ x0 x5 y0)
set_option maxRecDepth 100000 in
set_option maxHeartbeats 4000000 in
theorem w_J6_getChars_ba4f3_12 {F : Nat} {r' : Int32} {σ' : St}  (C : Cx g p s m args meth c cJ6_getChars_ba4f3 7 RJ6) (hr : meth.sig.returnType = some .int) :
    (∀ (σ : St) (x0 : Int32) (x5 : Int32) (y0 : Int32), f_J6_getChars_ba4f3_12 F σ x0 x5 y0 = some (r', σ') → ∀ (H : Heap) (locs : List Loc) (ls : Array Slot), Dy g (wD g σ ++ X) s H locs → lv_has ls 7 [(0, .int x0), (2, .ref (ga g 33)), (5, .int x5)] → W p l e (rmD 0) s m args below meth c H locs 0 0 (QI g below args s (wD g σ' ++ X) r') (F0 m 12 ls [.int y0])) := by
  have hx := C.1
  have hb := C.2.1
  have hE := C.2.2.2.2.2.2.2.2
  intro σ x0 x5 y0 h H locs ls hd hl
  rw [f_J6_getChars_ba4f3_12] at h
  refine lv_istore (lv' := [(6, .int y0), (0, .int x0), (2, .ref (ga g 33)), (5, .int x5)]) hx hb dJ6_getChars_ba4f3_12 hl (Nat.le_of_ble_eq_true rfl) rfl (fun ls hl => ?_)
  refine lv_iload hx hb dJ6_getChars_ba4f3_14 (lv_at hl 0 rfl) ?_
  refine lv_if_ne (tgt := 22) hx hb dJ6_getChars_ba4f3_16 (by decide) (fun c1 => ?_) (fun c1 => ?_)
  · replace h := iteF c1 h
    exact w_J6_getChars_ba4f3_22 C hr _ σ x0 x5 y0 h _ _ _ hd (lv_sub hl [1, 2, 3, 0] rfl)
  · replace h := iteT c1 h
    refine lv_iload_n hx hb dJ6_getChars_ba4f3_19 rfl (lv_at hl 1 rfl) ?_
    refine lv_ineg hx hb dJ6_getChars_ba4f3_20 ?_
    obtain ⟨v2, ev2, h⟩ := bnd_e h
    refine rTop ev2 ?_
    refine lv_istore_n (lv' := [(0, .int v2), (6, .int y0), (2, .ref (ga g 33)), (5, .int x5)]) hx hb dJ6_getChars_ba4f3_21 rfl hl (Nat.le_of_ble_eq_true rfl) rfl (fun ls hl => ?_)
    exact w_J6_getChars_ba4f3_22 C hr _ σ v2 x5 y0 h _ _ _ hd (lv_sub hl [0, 2, 3, 1] rfl)
noncomputable def f_J6_getChars_ba4f3 (F : Nat) (σ : St) (x0 : Int32) (x1 : Int32) : Option (Int32 × St) :=
  if 0 ≤ x0 then (f_J6_getChars_ba4f3_12 F σ x0 x1 0) else (f_J6_getChars_ba4f3_12 F σ x0 x1 1)
set_option maxRecDepth 100000 in
set_option maxHeartbeats 4000000 in
theorem c_J6_getChars_ba4f3 {l : Launch} {g : Gp} {X : va_W} (hE : E0 g) {F : Nat} {r' : Int32} {σ' : St} {σ : St} {x0 : Int32} {x1 : Int32} (h : f_J6_getChars_ba4f3 F σ x0 x1 = some (r', σ')) : Ci l g yJ6_getChars_ba4f3 cJ6_getChars_ba4f3 7 (some .int) 0 [.int x0, .int x1, .ref (ga g 33)] (wD g σ ++ X) r' (wD g σ' ++ X) := by
  refine rHead hE (by decide +kernel) (Nat.le_of_ble_eq_true rfl) (fun p e s m below meth c C hr _ hd ls hl => ?_)
  have hx := C.1
  have hb := C.2.1
  have hl : lv_has ls 7 [(0, .int x0), (1, .int x1), (2, .ref (ga g 33))] := hl
  generalize ([.int x0, .int x1, .ref (ga g 33)] : List Value).toArray = args at C ⊢
  have C : Cx g p s m args meth c cJ6_getChars_ba4f3 7 RJ6 := C
  rw [f_J6_getChars_ba4f3] at h
  refine lv_iload_n hx hb dJ6_getChars_ba4f3_0 rfl (lv_at hl 1 rfl) ?_
  refine lv_istore (lv' := [(5, .int x1), (0, .int x0), (1, .int x1), (2, .ref (ga g 33))]) hx hb dJ6_getChars_ba4f3_1 hl (Nat.le_of_ble_eq_true rfl) rfl (fun ls hl => ?_)
  refine lv_iload_n hx hb dJ6_getChars_ba4f3_3 rfl (lv_at hl 1 rfl) ?_
  refine lv_if_ge (tgt := 11) hx hb dJ6_getChars_ba4f3_4 (by decide) (fun c1 => ?_) (fun c1 => ?_)
  · replace h := iteT c1 h
    refine lv_iconst (v := 0) hx hb dJ6_getChars_ba4f3_11 ic_0 ?_
    exact w_J6_getChars_ba4f3_12 C hr σ x0 x1 0 h _ _ _ hd (lv_sub hl [1, 3, 0] rfl)
  · replace h := iteF c1 h
    refine lv_iconst (v := 1) hx hb dJ6_getChars_ba4f3_7 ic_1 ?_
    refine lv_goto (tgt := 12) hx hb dJ6_getChars_ba4f3_8 (by decide) ?_
    exact w_J6_getChars_ba4f3_12 C hr σ x0 x1 1 h _ _ _ hd (lv_sub hl [1, 3, 0] rfl)
noncomputable def f_J5_append_c97b9 (F : Nat) (σ : St) (x1 : Int32) : Option St :=
  bnd (σ.1 34) (fun v1 => cal (f_J6_stringSize_0f7a4 F σ x1) (fun r2 => bnd (v1 + r2) (fun v3 => cal (f_J5_ensureCapacityInternal_d00df F σ v3) (fun t4 => cal (f_J5_isLatin1_aae02 F t4) (fun r5 => if r5 = 0 then (none) else (cal2 (f_J6_getChars_ba4f3 F t4 x1 v3) (fun r7 t8 => bnd (ss t8 34 v3) (fun t9 => some t9))))))))
set_option maxRecDepth 100000 in
set_option maxHeartbeats 4000000 in
theorem c_J5_append_c97b9 {l : Launch} {g : Gp} {X : va_W} (hE : E0 g) {F : Nat} {σ' : St} {σ : St} {x1 : Int32} (h : f_J5_append_c97b9 F σ x1 = some σ') : Cr l g yJ5_append_c97b9 cJ5_append_c97b9 4 (some (.object "java/lang/AbstractStringBuilder")) 1 [.ref (ga g 8), .int x1] (wD g σ ++ X) (ga g 8) (wD g σ' ++ X) := by
  refine rHead hE (by decide +kernel) (Nat.le_of_ble_eq_true rfl) (fun p e s m below meth c C hr _ hd ls hl => ?_)
  have hx := C.1
  have hb := C.2.1
  have hl : lv_has ls 4 [(0, .ref (ga g 8)), (1, .int x1)] := hl
  generalize ([.ref (ga g 8), .int x1] : List Value).toArray = args at C ⊢
  have C : Cx g p s m args meth c cJ5_append_c97b9 4 RJ5 := C
  rw [f_J5_append_c97b9] at h
  refine lv_aload_n hx hb dJ5_append_c97b9_0 rfl (lv_at hl 0 rfl) ?_
  refine gJ5_79 C hd dJ5_append_c97b9_1 ?_
  obtain ⟨v1, ev1, h⟩ := bnd_e h
  refine rTop ev1 ?_
  refine lv_istore_n (lv' := [(2, .int v1), (0, .ref (ga g 8)), (1, .int x1)]) hx hb dJ5_append_c97b9_4 rfl hl (Nat.le_of_ble_eq_true rfl) rfl (fun ls hl => ?_)
  refine lv_iload_n hx hb dJ5_append_c97b9_5 rfl (lv_at hl 0 rfl) ?_
  refine lv_iload_n hx hb dJ5_append_c97b9_6 rfl (lv_at hl 2 rfl) ?_
  obtain ⟨r2, er2, h⟩ := cal_e h
  refine rCallSI C hd (c_J6_stringSize_0f7a4 hE er2) kJ5_245 rfl hl.1 rfl (Nat.le_of_ble_eq_true rfl) ⟨(Nat.le_of_ble_eq_true rfl), (Nat.le_of_ble_eq_true rfl)⟩ ⟨Nat.le_refl _, Nat.le_refl _⟩ dJ5_append_c97b9_7 (fun H locs hd => ?_)
  refine lv_iadd hx hb dJ5_append_c97b9_10 ?_
  obtain ⟨v3, ev3, h⟩ := bnd_e h
  refine rTop ev3 ?_
  refine lv_istore_n (lv' := [(3, .int v3), (2, .int v1), (0, .ref (ga g 8)), (1, .int x1)]) hx hb dJ5_append_c97b9_11 rfl hl (Nat.le_of_ble_eq_true rfl) rfl (fun ls hl => ?_)
  refine lv_aload_n hx hb dJ5_append_c97b9_12 rfl (lv_at hl 2 rfl) ?_
  refine lv_iload_n hx hb dJ5_append_c97b9_13 rfl (lv_at hl 0 rfl) ?_
  obtain ⟨t4, et4, h⟩ := cal_e h
  refine rCallCV C hd (c_J5_ensureCapacityInternal_d00df hE et4) kcJ5_100 (sbSel C rfl (mT 975 (by decide +kernel)) (mT 976 (by decide +kernel))) 8 rfl rfl rfl hl.1 rfl (Nat.le_of_ble_eq_true rfl) ⟨(Nat.le_of_ble_eq_true rfl), (Nat.le_of_ble_eq_true rfl)⟩ ⟨Nat.le_refl _, Nat.le_refl _⟩ dJ5_append_c97b9_14 (fun H locs hd => ?_)
  refine lv_aload_n hx hb dJ5_append_c97b9_17 rfl (lv_at hl 2 rfl) ?_
  obtain ⟨r5, er5, h⟩ := cal_e h
  refine rCallCI C hd (c_J5_isLatin1_aae02 hE er5) kcJ5_83 (C.2.2.2.2.2.1 (.selects RJ4 yJ5_isLatin1_aae02 yJ5_isLatin1_aae02) (mT 1008 (by decide +kernel)) rfl) 8 rfl rfl rfl hl.1 rfl (Nat.le_of_ble_eq_true rfl) ⟨(Nat.le_of_ble_eq_true rfl), (Nat.le_of_ble_eq_true rfl)⟩ ⟨Nat.le_refl _, Nat.le_refl _⟩ dJ5_append_c97b9_18 (fun H locs hd => ?_)
  refine lv_if_eq (tgt := 37) hx hb dJ5_append_c97b9_21 (by decide) (fun c6 => ?_) (fun c6 => ?_)
  · replace h := iteT c6 h
    cases h
  · replace h := iteF c6 h
    refine lv_iload_n hx hb dJ5_append_c97b9_24 rfl (lv_at hl 3 rfl) ?_
    refine lv_iload_n hx hb dJ5_append_c97b9_25 rfl (lv_at hl 0 rfl) ?_
    refine lv_aload_n hx hb dJ5_append_c97b9_26 rfl (lv_at hl 2 rfl) ?_
    refine gJ5_15 C hd dJ5_append_c97b9_27 ?_
    obtain ⟨r7, t8, et8, h⟩ := cal2_e h
    refine rCallSI C hd (c_J6_getChars_ba4f3 hE et8) kJ5_248 rfl hl.1 rfl (Nat.le_of_ble_eq_true rfl) ⟨(Nat.le_of_ble_eq_true rfl), (Nat.le_of_ble_eq_true rfl)⟩ ⟨Nat.le_refl _, Nat.le_refl _⟩ dJ5_append_c97b9_30 (fun H locs hd => ?_)
    refine lv_pop hx hb dJ5_append_c97b9_33 rfl ?_
    refine lv_goto (tgt := 48) hx hb dJ5_append_c97b9_34 (by decide) ?_
    refine lv_aload_n hx hb dJ5_append_c97b9_48 rfl (lv_at hl 2 rfl) ?_
    refine lv_iload_n hx hb dJ5_append_c97b9_49 rfl (lv_at hl 0 rfl) ?_
    obtain ⟨t9, et9, h⟩ := bnd_e h
    refine pJ5_79 C hd et9 dJ5_append_c97b9_50 (fun H locs hd => ?_)
    refine lv_aload_n hx hb dJ5_append_c97b9_53 rfl (lv_at hl 2 rfl) ?_
    exact rAretS (w := wD g) C hr hd h dJ5_append_c97b9_54
noncomputable def f_J4_append_bf812 (F : Nat) (σ : St) (x1 : Int32) : Option St :=
  cal (f_J5_append_c97b9 F σ x1) (fun t1 => some t1)
set_option maxRecDepth 100000 in
set_option maxHeartbeats 4000000 in
theorem c_J4_append_bf812 {l : Launch} {g : Gp} {X : va_W} (hE : E0 g) {F : Nat} {σ' : St} {σ : St} {x1 : Int32} (h : f_J4_append_bf812 F σ x1 = some σ') : Cr l g yJ4_append_bf812 cJ4_append_bf812 2 (some (.object "java/lang/StringBuilder")) 2 [.ref (ga g 8), .int x1] (wD g σ ++ X) (ga g 8) (wD g σ' ++ X) := by
  refine rHead hE (by decide +kernel) (Nat.le_of_ble_eq_true rfl) (fun p e s m below meth c C hr _ hd ls hl => ?_)
  have hx := C.1
  have hb := C.2.1
  have hl : lv_has ls 2 [(0, .ref (ga g 8)), (1, .int x1)] := hl
  generalize ([.ref (ga g 8), .int x1] : List Value).toArray = args at C ⊢
  have C : Cx g p s m args meth c cJ4_append_bf812 2 RJ4 := C
  rw [f_J4_append_bf812] at h
  refine lv_aload_n hx hb dJ4_append_bf812_0 rfl (lv_at hl 0 rfl) ?_
  refine lv_iload_n hx hb dJ4_append_bf812_1 rfl (lv_at hl 1 rfl) ?_
  obtain ⟨t1, et1, h⟩ := cal_e h
  refine rCallUR C hd (c_J5_append_c97b9 hE et1) uJ4_53 8 rfl rfl rfl hl.1 rfl (Nat.le_of_ble_eq_true rfl) ⟨(Nat.le_of_ble_eq_true rfl), (Nat.le_of_ble_eq_true rfl)⟩ ⟨Nat.le_refl _, Nat.le_refl _⟩ dJ4_append_bf812_2 (fun H locs hd => ?_)
  refine lv_pop hx hb dJ4_append_bf812_5 rfl ?_
  refine lv_aload_n hx hb dJ4_append_bf812_6 rfl (lv_at hl 0 rfl) ?_
  exact rAretS (w := wD g) C hr hd h dJ4_append_bf812_7
noncomputable def f_J5_append_3fe6f_45 (F : Nat) (σ : St) (x1 : Int32) : Option St :=
  cal (f_J5_isLatin1_aae02 F σ) (fun r1 => if r1 = 0 then (none) else (none))
set_option maxRecDepth 100000 in
set_option maxHeartbeats 4000000 in
theorem w_J5_append_3fe6f_45 {F : Nat} {σ' : St}  (C : Cx g p s m args meth c cJ5_append_3fe6f 2 RJ5) (hr : meth.sig.returnType = some (.object "java/lang/AbstractStringBuilder")) :
    (∀ (σ : St) (x1 : Int32), f_J5_append_3fe6f_45 F σ x1 = some σ' → ∀ (H : Heap) (locs : List Loc) (ls : Array Slot), Dy g (wD g σ ++ X) s H locs → lv_has ls 2 [(0, .ref (ga g 8)), (1, .int x1)] → W p l e (rmD 1) s m args below meth c H locs 0 0 (QR g below args s (wD g σ' ++ X) (ga g 8)) (F0 m 45 ls [])) := by
  have hx := C.1
  have hb := C.2.1
  have hE := C.2.2.2.2.2.2.2.2
  intro σ x1 h H locs ls hd hl
  rw [f_J5_append_3fe6f_45] at h
  refine lv_aload_n hx hb dJ5_append_3fe6f_45 rfl (lv_at hl 0 rfl) ?_
  obtain ⟨r1, er1, h⟩ := cal_e h
  refine rCallCI C hd (c_J5_isLatin1_aae02 hE er1) kcJ5_83 (C.2.2.2.2.2.1 (.selects RJ4 yJ5_isLatin1_aae02 yJ5_isLatin1_aae02) (mT 1008 (by decide +kernel)) rfl) 8 rfl rfl rfl hl.1 rfl (Nat.le_of_ble_eq_true rfl) ⟨(Nat.le_of_ble_eq_true rfl), (Nat.le_of_ble_eq_true rfl)⟩ ⟨Nat.le_refl _, Nat.le_refl _⟩ dJ5_append_3fe6f_46 (fun H locs hd => ?_)
  refine lv_if_eq (tgt := 56) hx hb dJ5_append_3fe6f_49 (by decide) (fun c2 => ?_) (fun c2 => ?_)
  · replace h := iteT c2 h
    cases h
  · replace h := iteF c2 h
    cases h
noncomputable def f_J5_append_3fe6f (F : Nat) (σ : St) (x1 : Int32) : Option St :=
  cal (f_J5_ensureCapacityInternal_d00df F σ ((σ.1 34) + 1)) (fun t1 => cal (f_J5_isLatin1_aae02 F t1) (fun r2 => if r2 = 0 then (f_J5_append_3fe6f_45 F t1 x1) else (cal (f_J1_canEncode_fc78d F t1 x1) (fun r4 => if r4 = 0 then (f_J5_append_3fe6f_45 F t1 x1) else (bnd (ss t1 34 ((t1.1 34) + 1)) (fun t6 => if inb (t1.1 34) 16 = true then bnd (sr t6 33 (t1.1 34).toNatClampNeg (vp_nar .byte (Int8.toInt32 (Int32.toInt8 x1)))) (fun t8 => some t8) else none))))))
set_option maxRecDepth 100000 in
set_option maxHeartbeats 4000000 in
theorem c_J5_append_3fe6f {l : Launch} {g : Gp} {X : va_W} (hE : E0 g) {F : Nat} {σ' : St} {σ : St} {x1 : Int32} (h : f_J5_append_3fe6f F σ x1 = some σ') : Cr l g yJ5_append_3fe6f cJ5_append_3fe6f 2 (some (.object "java/lang/AbstractStringBuilder")) 1 [.ref (ga g 8), .int x1] (wD g σ ++ X) (ga g 8) (wD g σ' ++ X) := by
  refine rHead hE (by decide +kernel) (Nat.le_of_ble_eq_true rfl) (fun p e s m below meth c C hr _ hd ls hl => ?_)
  have hx := C.1
  have hb := C.2.1
  have hl : lv_has ls 2 [(0, .ref (ga g 8)), (1, .int x1)] := hl
  generalize ([.ref (ga g 8), .int x1] : List Value).toArray = args at C ⊢
  have C : Cx g p s m args meth c cJ5_append_3fe6f 2 RJ5 := C
  rw [f_J5_append_3fe6f] at h
  refine lv_aload_n hx hb dJ5_append_3fe6f_0 rfl (lv_at hl 0 rfl) ?_
  refine lv_aload_n hx hb dJ5_append_3fe6f_1 rfl (lv_at hl 0 rfl) ?_
  refine gJ5_79 C hd dJ5_append_3fe6f_2 ?_
  refine lv_iconst (v := 1) hx hb dJ5_append_3fe6f_5 ic_1 ?_
  refine lv_iadd hx hb dJ5_append_3fe6f_6 ?_
  obtain ⟨t1, et1, h⟩ := cal_e h
  refine rCallCV C hd (c_J5_ensureCapacityInternal_d00df hE et1) kcJ5_100 (sbSel C rfl (mT 975 (by decide +kernel)) (mT 976 (by decide +kernel))) 8 rfl rfl rfl hl.1 rfl (Nat.le_of_ble_eq_true rfl) ⟨(Nat.le_of_ble_eq_true rfl), (Nat.le_of_ble_eq_true rfl)⟩ ⟨Nat.le_refl _, Nat.le_refl _⟩ dJ5_append_3fe6f_7 (fun H locs hd => ?_)
  refine lv_aload_n hx hb dJ5_append_3fe6f_10 rfl (lv_at hl 0 rfl) ?_
  obtain ⟨r2, er2, h⟩ := cal_e h
  refine rCallCI C hd (c_J5_isLatin1_aae02 hE er2) kcJ5_83 (C.2.2.2.2.2.1 (.selects RJ4 yJ5_isLatin1_aae02 yJ5_isLatin1_aae02) (mT 1008 (by decide +kernel)) rfl) 8 rfl rfl rfl hl.1 rfl (Nat.le_of_ble_eq_true rfl) ⟨(Nat.le_of_ble_eq_true rfl), (Nat.le_of_ble_eq_true rfl)⟩ ⟨Nat.le_refl _, Nat.le_refl _⟩ dJ5_append_3fe6f_11 (fun H locs hd => ?_)
  refine lv_if_eq (tgt := 45) hx hb dJ5_append_3fe6f_14 (by decide) (fun c3 => ?_) (fun c3 => ?_)
  · replace h := iteT c3 h
    exact w_J5_append_3fe6f_45 C hr t1 x1 h _ _ _ hd (lv_sub hl [0, 1] rfl)
  · replace h := iteF c3 h
    refine lv_iload_n hx hb dJ5_append_3fe6f_17 rfl (lv_at hl 1 rfl) ?_
    obtain ⟨r4, er4, h⟩ := cal_e h
    refine rCallSI C hd (c_J1_canEncode_fc78d hE er4) kJ5_191 rfl hl.1 rfl (Nat.le_of_ble_eq_true rfl) ⟨(Nat.le_of_ble_eq_true rfl), (Nat.le_of_ble_eq_true rfl)⟩ ⟨Nat.le_refl _, Nat.le_refl _⟩ dJ5_append_3fe6f_18 (fun H locs hd => ?_)
    refine lv_if_eq (tgt := 45) hx hb dJ5_append_3fe6f_21 (by decide) (fun c5 => ?_) (fun c5 => ?_)
    · replace h := iteT c5 h
      exact w_J5_append_3fe6f_45 C hr t1 x1 h _ _ _ hd (lv_sub hl [0, 1] rfl)
    · replace h := iteF c5 h
      refine lv_aload_n hx hb dJ5_append_3fe6f_24 rfl (lv_at hl 0 rfl) ?_
      refine gJ5_15 C hd dJ5_append_3fe6f_25 ?_
      refine lv_aload_n hx hb dJ5_append_3fe6f_28 rfl (lv_at hl 0 rfl) ?_
      refine lv_dup hx hb dJ5_append_3fe6f_29 rfl ?_
      refine gJ5_79 C hd dJ5_append_3fe6f_30 ?_
      refine lv_dup_x1 hx hb dJ5_append_3fe6f_33 rfl rfl ?_
      refine lv_iconst (v := 1) hx hb dJ5_append_3fe6f_34 ic_1 ?_
      refine lv_iadd hx hb dJ5_append_3fe6f_35 ?_
      obtain ⟨t6, et6, h⟩ := bnd_e h
      refine pJ5_79 C hd et6 dJ5_append_3fe6f_36 (fun H locs hd => ?_)
      refine lv_iload_n hx hb dJ5_append_3fe6f_39 rfl (lv_at hl 1 rfl) ?_
      refine lv_i2b hx hb dJ5_append_3fe6f_40 rfl ?_
      obtain ⟨n7, h⟩ := chk h
      obtain ⟨t8, et8, h⟩ := bnd_e h
      refine st_wD_33 C hd (inb_i n7) et8 dJ5_append_3fe6f_41 (fun H locs hd => ?_)
      refine lv_goto (tgt := 75) hx hb dJ5_append_3fe6f_42 (by decide) ?_
      refine lv_aload_n hx hb dJ5_append_3fe6f_75 rfl (lv_at hl 0 rfl) ?_
      exact rAretS (w := wD g) C hr hd h dJ5_append_3fe6f_76
noncomputable def f_J4_append_cf468 (F : Nat) (σ : St) (x1 : Int32) : Option St :=
  cal (f_J5_append_3fe6f F σ x1) (fun t1 => some t1)
set_option maxRecDepth 100000 in
set_option maxHeartbeats 4000000 in
theorem c_J4_append_cf468 {l : Launch} {g : Gp} {X : va_W} (hE : E0 g) {F : Nat} {σ' : St} {σ : St} {x1 : Int32} (h : f_J4_append_cf468 F σ x1 = some σ') : Cr l g yJ4_append_cf468 cJ4_append_cf468 2 (some (.object "java/lang/StringBuilder")) 2 [.ref (ga g 8), .int x1] (wD g σ ++ X) (ga g 8) (wD g σ' ++ X) := by
  refine rHead hE (by decide +kernel) (Nat.le_of_ble_eq_true rfl) (fun p e s m below meth c C hr _ hd ls hl => ?_)
  have hx := C.1
  have hb := C.2.1
  have hl : lv_has ls 2 [(0, .ref (ga g 8)), (1, .int x1)] := hl
  generalize ([.ref (ga g 8), .int x1] : List Value).toArray = args at C ⊢
  have C : Cx g p s m args meth c cJ4_append_cf468 2 RJ4 := C
  rw [f_J4_append_cf468] at h
  refine lv_aload_n hx hb dJ4_append_cf468_0 rfl (lv_at hl 0 rfl) ?_
  refine lv_iload_n hx hb dJ4_append_cf468_1 rfl (lv_at hl 1 rfl) ?_
  obtain ⟨t1, et1, h⟩ := cal_e h
  refine rCallUR C hd (c_J5_append_3fe6f hE et1) uJ4_50 8 rfl rfl rfl hl.1 rfl (Nat.le_of_ble_eq_true rfl) ⟨(Nat.le_of_ble_eq_true rfl), (Nat.le_of_ble_eq_true rfl)⟩ ⟨Nat.le_refl _, Nat.le_refl _⟩ dJ4_append_cf468_2 (fun H locs hd => ?_)
  refine lv_pop hx hb dJ4_append_cf468_5 rfl ?_
  refine lv_aload_n hx hb dJ4_append_cf468_6 rfl (lv_at hl 0 rfl) ?_
  exact rAretS (w := wD g) C hr hd h dJ4_append_cf468_7
noncomputable def f_J5_charAt_5068e (F : Nat) (σ : St) (x1 : Int32) : Option Int32 :=
  bnd (σ.1 32) (fun v1 => bnd (mn (σ.1 34) (16 >>> (v1 &&& 31))) (fun v2 => cal (f_J0_checkIndex_df160 F σ x1 v2) (fun t3 => if v1 = 0 then (if inb x1 16 = true then if idC (UInt32.toInt32 (Int32.toUInt32 ((σ.2.1 33 x1.toNatClampNeg) &&& 255) % 65536)) = true then some (UInt32.toInt32 (Int32.toUInt32 ((σ.2.1 33 x1.toNatClampNeg) &&& 255) % 65536)) else none else none) else (none))))
set_option maxRecDepth 100000 in
set_option maxHeartbeats 4000000 in
theorem c_J5_charAt_5068e {l : Launch} {g : Gp} {X : va_W} (hE : E0 g) {F : Nat} {r' : Int32} {σ : St} {x1 : Int32} (h : f_J5_charAt_5068e F σ x1 = some r') : Ci l g yJ5_charAt_5068e cJ5_charAt_5068e 5 (some .char) 2 [.ref (ga g 8), .int x1] (wD g σ ++ X) r' (wD g σ ++ X) := by
  refine rHead hE (by decide +kernel) (Nat.le_of_ble_eq_true rfl) (fun p e s m below meth c C hr _ hd ls hl => ?_)
  have hx := C.1
  have hb := C.2.1
  have hl : lv_has ls 5 [(0, .ref (ga g 8)), (1, .int x1)] := hl
  generalize ([.ref (ga g 8), .int x1] : List Value).toArray = args at C ⊢
  have C : Cx g p s m args meth c cJ5_charAt_5068e 5 RJ5 := C
  rw [f_J5_charAt_5068e] at h
  refine lv_aload_n hx hb dJ5_charAt_5068e_0 rfl (lv_at hl 0 rfl) ?_
  refine gJ5_22 C hd dJ5_charAt_5068e_1 ?_
  obtain ⟨v1, ev1, h⟩ := bnd_e h
  refine rTop ev1 ?_
  refine lv_istore_n (lv' := [(2, .int v1), (0, .ref (ga g 8)), (1, .int x1)]) hx hb dJ5_charAt_5068e_4 rfl hl (Nat.le_of_ble_eq_true rfl) rfl (fun ls hl => ?_)
  refine lv_aload_n hx hb dJ5_charAt_5068e_5 rfl (lv_at hl 1 rfl) ?_
  refine gJ5_15 C hd dJ5_charAt_5068e_6 ?_
  refine lv_astore_n (lv' := [(3, .ref (ga g 33)), (2, .int v1), (0, .ref (ga g 8)), (1, .int x1)]) hx hb dJ5_charAt_5068e_9 rfl hl (Nat.le_of_ble_eq_true rfl) rfl (fun ls hl => ?_)
  refine lv_aload_n hx hb dJ5_charAt_5068e_10 rfl (lv_at hl 2 rfl) ?_
  refine gJ5_79 C hd dJ5_charAt_5068e_11 ?_
  refine lv_aload_n hx hb dJ5_charAt_5068e_14 rfl (lv_at hl 0 rfl) ?_
  refine len_wD_33 C hd dJ5_charAt_5068e_15 ?_
  refine lv_iload_n hx hb dJ5_charAt_5068e_16 rfl (lv_at hl 1 rfl) ?_
  refine lv_ishr hx hb dJ5_charAt_5068e_17 ?_
  refine rMin C hl.1 (mT 1131 (by decide +kernel)) (mT 380 (by decide +kernel)) (mT 14 (by decide +kernel)) (mT 381 (by decide +kernel)) ⟨(Nat.le_of_ble_eq_true rfl), (Nat.le_of_ble_eq_true rfl)⟩ ⟨Nat.le_refl _, Nat.le_refl _⟩ dJ5_charAt_5068e_18 ?_
  obtain ⟨v2, ev2, h⟩ := bnd_e h
  refine rTop ev2 ?_
  refine lv_istore (lv' := [(4, .int v2), (3, .ref (ga g 33)), (2, .int v1), (0, .ref (ga g 8)), (1, .int x1)]) hx hb dJ5_charAt_5068e_21 hl (Nat.le_of_ble_eq_true rfl) rfl (fun ls hl => ?_)
  refine lv_iload_n hx hb dJ5_charAt_5068e_23 rfl (lv_at hl 4 rfl) ?_
  refine lv_iload hx hb dJ5_charAt_5068e_24 (lv_at hl 0 rfl) ?_
  obtain ⟨t3, et3, h⟩ := cal_e h
  refine rCallSV C hd (c_J0_checkIndex_df160 hE et3) kJ5_144 rfl hl.1 rfl (Nat.le_of_ble_eq_true rfl) ⟨(Nat.le_of_ble_eq_true rfl), (Nat.le_of_ble_eq_true rfl)⟩ ⟨Nat.le_refl _, Nat.le_refl _⟩ dJ5_charAt_5068e_26 (fun H locs hd => ?_)
  refine lv_iload_n hx hb dJ5_charAt_5068e_29 rfl (lv_at hl 2 rfl) ?_
  refine lv_if_ne (tgt := 42) hx hb dJ5_charAt_5068e_30 (by decide) (fun c4 => ?_) (fun c4 => ?_)
  · replace h := iteF c4 h
    cases h
  · replace h := iteT c4 h
    refine lv_aload_n hx hb dJ5_charAt_5068e_33 rfl (lv_at hl 1 rfl) ?_
    refine lv_iload_n hx hb dJ5_charAt_5068e_34 rfl (lv_at hl 4 rfl) ?_
    obtain ⟨n5, h⟩ := chk h
    refine ld_wD_33 C hd (inb_i n5) dJ5_charAt_5068e_35 ?_
    refine lv_sipush (v := 255) hx hb dJ5_charAt_5068e_36 si_255 ?_
    refine lv_iand hx hb dJ5_charAt_5068e_39 ?_
    refine lv_i2c hx hb dJ5_charAt_5068e_40 rfl ?_
    obtain ⟨n6, h⟩ := chk h
    exact rNretP C hr hd h (narC n6) dJ5_charAt_5068e_41
noncomputable def f_J4_charAt_5068e (F : Nat) (σ : St) (x1 : Int32) : Option Int32 :=
  cal (f_J5_charAt_5068e F σ x1) (fun r1 => if idC r1 = true then some r1 else none)
set_option maxRecDepth 100000 in
set_option maxHeartbeats 4000000 in
theorem c_J4_charAt_5068e {l : Launch} {g : Gp} {X : va_W} (hE : E0 g) {F : Nat} {r' : Int32} {σ : St} {x1 : Int32} (h : f_J4_charAt_5068e F σ x1 = some r') : Ci l g yJ4_charAt_5068e cJ4_charAt_5068e 2 (some .char) 3 [.ref (ga g 8), .int x1] (wD g σ ++ X) r' (wD g σ ++ X) := by
  refine rHead hE (by decide +kernel) (Nat.le_of_ble_eq_true rfl) (fun p e s m below meth c C hr _ hd ls hl => ?_)
  have hx := C.1
  have hb := C.2.1
  have hl : lv_has ls 2 [(0, .ref (ga g 8)), (1, .int x1)] := hl
  generalize ([.ref (ga g 8), .int x1] : List Value).toArray = args at C ⊢
  have C : Cx g p s m args meth c cJ4_charAt_5068e 2 RJ4 := C
  rw [f_J4_charAt_5068e] at h
  refine lv_aload_n hx hb dJ4_charAt_5068e_0 rfl (lv_at hl 0 rfl) ?_
  refine lv_iload_n hx hb dJ4_charAt_5068e_1 rfl (lv_at hl 1 rfl) ?_
  obtain ⟨r1, er1, h⟩ := cal_e h
  refine rCallUI C hd (c_J5_charAt_5068e hE er1) uJ4_329 8 rfl rfl rfl hl.1 rfl (Nat.le_of_ble_eq_true rfl) ⟨(Nat.le_of_ble_eq_true rfl), (Nat.le_of_ble_eq_true rfl)⟩ ⟨Nat.le_refl _, Nat.le_refl _⟩ dJ4_charAt_5068e_2 (fun H locs hd => ?_)
  obtain ⟨n2, h⟩ := chk h
  exact rNretP C hr hd h (narC n2) dJ4_charAt_5068e_5
noncomputable def f_J5_length_8abf5 (F : Nat) (σ : St) : Option Int32 :=
  some (σ.1 34)
set_option maxRecDepth 100000 in
set_option maxHeartbeats 4000000 in
theorem c_J5_length_8abf5 {l : Launch} {g : Gp} {X : va_W} (hE : E0 g) {F : Nat} {r' : Int32} {σ : St} (h : f_J5_length_8abf5 F σ = some r') : Ci l g yJ5_length_8abf5 cJ5_length_8abf5 1 (some .int) 0 [.ref (ga g 8)] (wD g σ ++ X) r' (wD g σ ++ X) := by
  refine rHead hE (by decide +kernel) (Nat.le_of_ble_eq_true rfl) (fun p e s m below meth c C hr _ hd ls hl => ?_)
  have hx := C.1
  have hb := C.2.1
  have hl : lv_has ls 1 [(0, .ref (ga g 8))] := hl
  generalize ([.ref (ga g 8)] : List Value).toArray = args at C ⊢
  have C : Cx g p s m args meth c cJ5_length_8abf5 1 RJ5 := C
  rw [f_J5_length_8abf5] at h
  refine lv_aload_n hx hb dJ5_length_8abf5_0 rfl (lv_at hl 0 rfl) ?_
  refine gJ5_79 C hd dJ5_length_8abf5_1 ?_
  exact rIretP C hr hd h dJ5_length_8abf5_4
noncomputable def f_J4_length_8abf5 (F : Nat) (σ : St) : Option Int32 :=
  cal (f_J5_length_8abf5 F σ) (fun r1 => some r1)
set_option maxRecDepth 100000 in
set_option maxHeartbeats 4000000 in
theorem c_J4_length_8abf5 {l : Launch} {g : Gp} {X : va_W} (hE : E0 g) {F : Nat} {r' : Int32} {σ : St} (h : f_J4_length_8abf5 F σ = some r') : Ci l g yJ4_length_8abf5 cJ4_length_8abf5 1 (some .int) 1 [.ref (ga g 8)] (wD g σ ++ X) r' (wD g σ ++ X) := by
  refine rHead hE (by decide +kernel) (Nat.le_of_ble_eq_true rfl) (fun p e s m below meth c C hr _ hd ls hl => ?_)
  have hx := C.1
  have hb := C.2.1
  have hl : lv_has ls 1 [(0, .ref (ga g 8))] := hl
  generalize ([.ref (ga g 8)] : List Value).toArray = args at C ⊢
  have C : Cx g p s m args meth c cJ4_length_8abf5 1 RJ4 := C
  rw [f_J4_length_8abf5] at h
  refine lv_aload_n hx hb dJ4_length_8abf5_0 rfl (lv_at hl 0 rfl) ?_
  obtain ⟨r1, er1, h⟩ := cal_e h
  refine rCallUI C hd (c_J5_length_8abf5 hE er1) uJ4_343 8 rfl rfl rfl hl.1 rfl (Nat.le_of_ble_eq_true rfl) ⟨(Nat.le_of_ble_eq_true rfl), (Nat.le_of_ble_eq_true rfl)⟩ ⟨Nat.le_refl _, Nat.le_refl _⟩ dJ4_length_8abf5_1 (fun H locs hd => ?_)
  exact rIretP C hr hd h dJ4_length_8abf5_4
noncomputable def f_J5_setLength_d00df (F : Nat) (σ : St) (x1 : Int32) : Option St :=
  if 0 ≤ x1 then (cal (f_J5_ensureCapacityInternal_d00df F σ x1) (fun t2 => if x1 ≤ (t2.1 34) then (if (t2.1 34) ≤ x1 then (bnd (ss t2 34 x1) (fun t5 => some t5)) else (bnd (ss t2 33 1) (fun t6 => bnd (ss t6 34 x1) (fun t7 => some t7)))) else (cal (f_J5_isLatin1_aae02 F t2) (fun r8 => if r8 = 0 then (none) else (none))))) else (none)
set_option maxRecDepth 100000 in
set_option maxHeartbeats 4000000 in
theorem c_J5_setLength_d00df {l : Launch} {g : Gp} {X : va_W} (hE : E0 g) {F : Nat} {σ' : St} {σ : St} {x1 : Int32} (h : f_J5_setLength_d00df F σ x1 = some σ') : Cv l g yJ5_setLength_d00df cJ5_setLength_d00df 2 1 [.ref (ga g 8), .int x1] (wD g σ ++ X) (wD g σ' ++ X) := by
  refine rHead hE (by decide +kernel) (Nat.le_of_ble_eq_true rfl) (fun p e s m below meth c C hr _ hd ls hl => ?_)
  have hx := C.1
  have hb := C.2.1
  have hl : lv_has ls 2 [(0, .ref (ga g 8)), (1, .int x1)] := hl
  generalize ([.ref (ga g 8), .int x1] : List Value).toArray = args at C ⊢
  have C : Cx g p s m args meth c cJ5_setLength_d00df 2 RJ5 := C
  rw [f_J5_setLength_d00df] at h
  refine lv_iload_n hx hb dJ5_setLength_d00df_0 rfl (lv_at hl 1 rfl) ?_
  refine lv_if_ge (tgt := 13) hx hb dJ5_setLength_d00df_1 (by decide) (fun c1 => ?_) (fun c1 => ?_)
  · replace h := iteT c1 h
    refine lv_aload_n hx hb dJ5_setLength_d00df_13 rfl (lv_at hl 0 rfl) ?_
    refine lv_iload_n hx hb dJ5_setLength_d00df_14 rfl (lv_at hl 1 rfl) ?_
    obtain ⟨t2, et2, h⟩ := cal_e h
    refine rCallCV C hd (c_J5_ensureCapacityInternal_d00df hE et2) kcJ5_100 (sbSel C rfl (mT 975 (by decide +kernel)) (mT 976 (by decide +kernel))) 8 rfl rfl rfl hl.1 rfl (Nat.le_of_ble_eq_true rfl) ⟨(Nat.le_of_ble_eq_true rfl), (Nat.le_of_ble_eq_true rfl)⟩ ⟨Nat.le_refl _, Nat.le_refl _⟩ dJ5_setLength_d00df_15 (fun H locs hd => ?_)
    refine lv_aload_n hx hb dJ5_setLength_d00df_18 rfl (lv_at hl 0 rfl) ?_
    refine gJ5_79 C hd dJ5_setLength_d00df_19 ?_
    refine lv_iload_n hx hb dJ5_setLength_d00df_22 rfl (lv_at hl 1 rfl) ?_
    refine lv_icmp_ge (tgt := 63) hx hb dJ5_setLength_d00df_23 (by decide) (fun c3 => ?_) (fun c3 => ?_)
    · replace h := iteT c3 h
      refine lv_aload_n hx hb dJ5_setLength_d00df_63 rfl (lv_at hl 0 rfl) ?_
      refine gJ5_79 C hd dJ5_setLength_d00df_64 ?_
      refine lv_iload_n hx hb dJ5_setLength_d00df_67 rfl (lv_at hl 1 rfl) ?_
      refine lv_icmp_le (tgt := 76) hx hb dJ5_setLength_d00df_68 (by decide) (fun c4 => ?_) (fun c4 => ?_)
      · replace h := iteT c4 h
        refine lv_aload_n hx hb dJ5_setLength_d00df_76 rfl (lv_at hl 0 rfl) ?_
        refine lv_iload_n hx hb dJ5_setLength_d00df_77 rfl (lv_at hl 1 rfl) ?_
        obtain ⟨t5, et5, h⟩ := bnd_e h
        refine pJ5_79 C hd et5 dJ5_setLength_d00df_78 (fun H locs hd => ?_)
        exact rVretS (w := wD g) C hr hd h dJ5_setLength_d00df_81
      · replace h := iteF c4 h
        refine lv_aload_n hx hb dJ5_setLength_d00df_71 rfl (lv_at hl 0 rfl) ?_
        refine lv_iconst (v := 1) hx hb dJ5_setLength_d00df_72 ic_1 ?_
        obtain ⟨t6, et6, h⟩ := bnd_e h
        refine pJ5_73 C hd (by decide) et6 dJ5_setLength_d00df_73 (fun H locs hd => ?_)
        refine lv_aload_n hx hb dJ5_setLength_d00df_76 rfl (lv_at hl 0 rfl) ?_
        refine lv_iload_n hx hb dJ5_setLength_d00df_77 rfl (lv_at hl 1 rfl) ?_
        obtain ⟨t7, et7, h⟩ := bnd_e h
        refine pJ5_79 C hd et7 dJ5_setLength_d00df_78 (fun H locs hd => ?_)
        exact rVretS (w := wD g) C hr hd h dJ5_setLength_d00df_81
    · replace h := iteF c3 h
      refine lv_aload_n hx hb dJ5_setLength_d00df_26 rfl (lv_at hl 0 rfl) ?_
      obtain ⟨r8, er8, h⟩ := cal_e h
      refine rCallCI C hd (c_J5_isLatin1_aae02 hE er8) kcJ5_83 (C.2.2.2.2.2.1 (.selects RJ4 yJ5_isLatin1_aae02 yJ5_isLatin1_aae02) (mT 1008 (by decide +kernel)) rfl) 8 rfl rfl rfl hl.1 rfl (Nat.le_of_ble_eq_true rfl) ⟨(Nat.le_of_ble_eq_true rfl), (Nat.le_of_ble_eq_true rfl)⟩ ⟨Nat.le_refl _, Nat.le_refl _⟩ dJ5_setLength_d00df_27 (fun H locs hd => ?_)
      refine lv_if_eq (tgt := 48) hx hb dJ5_setLength_d00df_30 (by decide) (fun c9 => ?_) (fun c9 => ?_)
      · replace h := iteT c9 h
        cases h
      · replace h := iteF c9 h
        cases h
  · replace h := iteF c1 h
    cases h
noncomputable def f_J4_setLength_d00df (F : Nat) (σ : St) (x1 : Int32) : Option St :=
  cal (f_J5_setLength_d00df F σ x1) (fun t1 => some t1)
set_option maxRecDepth 100000 in
set_option maxHeartbeats 4000000 in
theorem c_J4_setLength_d00df {l : Launch} {g : Gp} {X : va_W} (hE : E0 g) {F : Nat} {σ' : St} {σ : St} {x1 : Int32} (h : f_J4_setLength_d00df F σ x1 = some σ') : Cv l g yJ4_setLength_d00df cJ4_setLength_d00df 2 2 [.ref (ga g 8), .int x1] (wD g σ ++ X) (wD g σ' ++ X) := by
  refine rHead hE (by decide +kernel) (Nat.le_of_ble_eq_true rfl) (fun p e s m below meth c C hr _ hd ls hl => ?_)
  have hx := C.1
  have hb := C.2.1
  have hl : lv_has ls 2 [(0, .ref (ga g 8)), (1, .int x1)] := hl
  generalize ([.ref (ga g 8), .int x1] : List Value).toArray = args at C ⊢
  have C : Cx g p s m args meth c cJ4_setLength_d00df 2 RJ4 := C
  rw [f_J4_setLength_d00df] at h
  refine lv_aload_n hx hb dJ4_setLength_d00df_0 rfl (lv_at hl 0 rfl) ?_
  refine lv_iload_n hx hb dJ4_setLength_d00df_1 rfl (lv_at hl 1 rfl) ?_
  obtain ⟨t1, et1, h⟩ := cal_e h
  refine rCallUV C hd (c_J5_setLength_d00df hE et1) uJ4_333 8 rfl rfl rfl hl.1 rfl (Nat.le_of_ble_eq_true rfl) ⟨(Nat.le_of_ble_eq_true rfl), (Nat.le_of_ble_eq_true rfl)⟩ ⟨Nat.le_refl _, Nat.le_refl _⟩ dJ4_setLength_d00df_2 (fun H locs hd => ?_)
  exact rVretS (w := wD g) C hr hd h dJ4_setLength_d00df_5
noncomputable def f_J6_bitCount_0f7a4 (F : Nat) (σ : St) (x0 : Int32) : Option Int32 :=
  bnd (x0 - ((UInt32.toInt32 (Int32.toUInt32 x0 >>> (Int32.toUInt32 1 &&& Int32.toUInt32 31))) &&& 1431655765)) (fun v1 => bnd ((v1 &&& 858993459) + ((UInt32.toInt32 (Int32.toUInt32 v1 >>> (Int32.toUInt32 2 &&& Int32.toUInt32 31))) &&& 858993459)) (fun v2 => bnd ((v2 + (UInt32.toInt32 (Int32.toUInt32 v2 >>> (Int32.toUInt32 4 &&& Int32.toUInt32 31)))) &&& 252645135) (fun v3 => bnd (v3 + (UInt32.toInt32 (Int32.toUInt32 v3 >>> (Int32.toUInt32 8 &&& Int32.toUInt32 31)))) (fun v4 => bnd (v4 + (UInt32.toInt32 (Int32.toUInt32 v4 >>> (Int32.toUInt32 16 &&& Int32.toUInt32 31)))) (fun v5 => some (v5 &&& 63))))))
set_option maxRecDepth 100000 in
set_option maxHeartbeats 4000000 in
theorem c_J6_bitCount_0f7a4 {l : Launch} {g : Gp} {X : va_W} (hE : E0 g) {F : Nat} {r' : Int32} {σ : St} {x0 : Int32} (h : f_J6_bitCount_0f7a4 F σ x0 = some r') : Ci l g yJ6_bitCount_0f7a4 cJ6_bitCount_0f7a4 1 (some .int) 0 [.int x0] (wD g σ ++ X) r' (wD g σ ++ X) := by
  refine rHead hE (by decide +kernel) (Nat.le_of_ble_eq_true rfl) (fun p e s m below meth c C hr _ hd ls hl => ?_)
  have hx := C.1
  have hb := C.2.1
  have hl : lv_has ls 1 [(0, .int x0)] := hl
  generalize ([.int x0] : List Value).toArray = args at C ⊢
  have C : Cx g p s m args meth c cJ6_bitCount_0f7a4 1 RJ6 := C
  rw [f_J6_bitCount_0f7a4] at h
  refine lv_iload_n hx hb dJ6_bitCount_0f7a4_0 rfl (lv_at hl 0 rfl) ?_
  refine lv_iload_n hx hb dJ6_bitCount_0f7a4_1 rfl (lv_at hl 0 rfl) ?_
  refine lv_iconst (v := 1) hx hb dJ6_bitCount_0f7a4_2 ic_1 ?_
  refine lv_iushr hx hb dJ6_bitCount_0f7a4_3 rfl ?_
  refine rLdcw C (v := 1431655765) (mT 1301 (by decide +kernel)) dJ6_bitCount_0f7a4_4 ?_
  refine lv_iand hx hb dJ6_bitCount_0f7a4_7 ?_
  refine lv_isub hx hb dJ6_bitCount_0f7a4_8 ?_
  obtain ⟨v1, ev1, h⟩ := bnd_e h
  refine rTop ev1 ?_
  refine lv_istore_n (lv' := [(0, .int v1)]) hx hb dJ6_bitCount_0f7a4_9 rfl hl (Nat.le_of_ble_eq_true rfl) rfl (fun ls hl => ?_)
  refine lv_iload_n hx hb dJ6_bitCount_0f7a4_10 rfl (lv_at hl 0 rfl) ?_
  refine rLdcw C (v := 858993459) (mT 1302 (by decide +kernel)) dJ6_bitCount_0f7a4_11 ?_
  refine lv_iand hx hb dJ6_bitCount_0f7a4_14 ?_
  refine lv_iload_n hx hb dJ6_bitCount_0f7a4_15 rfl (lv_at hl 0 rfl) ?_
  refine lv_iconst (v := 2) hx hb dJ6_bitCount_0f7a4_16 ic_2 ?_
  refine lv_iushr hx hb dJ6_bitCount_0f7a4_17 rfl ?_
  refine rLdcw C (v := 858993459) (mT 1302 (by decide +kernel)) dJ6_bitCount_0f7a4_18 ?_
  refine lv_iand hx hb dJ6_bitCount_0f7a4_21 ?_
  refine lv_iadd hx hb dJ6_bitCount_0f7a4_22 ?_
  obtain ⟨v2, ev2, h⟩ := bnd_e h
  refine rTop ev2 ?_
  refine lv_istore_n (lv' := [(0, .int v2)]) hx hb dJ6_bitCount_0f7a4_23 rfl hl (Nat.le_of_ble_eq_true rfl) rfl (fun ls hl => ?_)
  refine lv_iload_n hx hb dJ6_bitCount_0f7a4_24 rfl (lv_at hl 0 rfl) ?_
  refine lv_iload_n hx hb dJ6_bitCount_0f7a4_25 rfl (lv_at hl 0 rfl) ?_
  refine lv_iconst (v := 4) hx hb dJ6_bitCount_0f7a4_26 ic_4 ?_
  refine lv_iushr hx hb dJ6_bitCount_0f7a4_27 rfl ?_
  refine lv_iadd hx hb dJ6_bitCount_0f7a4_28 ?_
  refine rLdcw C (v := 252645135) (mT 1303 (by decide +kernel)) dJ6_bitCount_0f7a4_29 ?_
  refine lv_iand hx hb dJ6_bitCount_0f7a4_32 ?_
  obtain ⟨v3, ev3, h⟩ := bnd_e h
  refine rTop ev3 ?_
  refine lv_istore_n (lv' := [(0, .int v3)]) hx hb dJ6_bitCount_0f7a4_33 rfl hl (Nat.le_of_ble_eq_true rfl) rfl (fun ls hl => ?_)
  refine lv_iload_n hx hb dJ6_bitCount_0f7a4_34 rfl (lv_at hl 0 rfl) ?_
  refine lv_iload_n hx hb dJ6_bitCount_0f7a4_35 rfl (lv_at hl 0 rfl) ?_
  refine lv_bipush (v := 8) hx hb dJ6_bitCount_0f7a4_36 bi_8 ?_
  refine lv_iushr hx hb dJ6_bitCount_0f7a4_38 rfl ?_
  refine lv_iadd hx hb dJ6_bitCount_0f7a4_39 ?_
  obtain ⟨v4, ev4, h⟩ := bnd_e h
  refine rTop ev4 ?_
  refine lv_istore_n (lv' := [(0, .int v4)]) hx hb dJ6_bitCount_0f7a4_40 rfl hl (Nat.le_of_ble_eq_true rfl) rfl (fun ls hl => ?_)
  refine lv_iload_n hx hb dJ6_bitCount_0f7a4_41 rfl (lv_at hl 0 rfl) ?_
  refine lv_iload_n hx hb dJ6_bitCount_0f7a4_42 rfl (lv_at hl 0 rfl) ?_
  refine lv_bipush (v := 16) hx hb dJ6_bitCount_0f7a4_43 bi_16 ?_
  refine lv_iushr hx hb dJ6_bitCount_0f7a4_45 rfl ?_
  refine lv_iadd hx hb dJ6_bitCount_0f7a4_46 ?_
  obtain ⟨v5, ev5, h⟩ := bnd_e h
  refine rTop ev5 ?_
  refine lv_istore_n (lv' := [(0, .int v5)]) hx hb dJ6_bitCount_0f7a4_47 rfl hl (Nat.le_of_ble_eq_true rfl) rfl (fun ls hl => ?_)
  refine lv_iload_n hx hb dJ6_bitCount_0f7a4_48 rfl (lv_at hl 0 rfl) ?_
  refine lv_bipush (v := 63) hx hb dJ6_bitCount_0f7a4_49 bi_63 ?_
  refine lv_iand hx hb dJ6_bitCount_0f7a4_51 ?_
  exact rIretP C hr hd h dJ6_bitCount_0f7a4_52
noncomputable def f_J7_fill_031fb_5 (F : Nat) : Nat → St → Int32 → Int32 → Int32 → Option St
  | 0, _, _, _, _ => none
  | n + 1, σ, x1, x2, x3 => if x3 ≤ x2 then (some σ) else (if inb x2 241 = true then bnd (sr σ 10 x2.toNatClampNeg (vp_nar .byte x1)) (fun t3 => bnd (x2 + 1) (fun v4 => f_J7_fill_031fb_5 F n t3 x1 v4 x3)) else none)
set_option maxRecDepth 100000 in
set_option maxHeartbeats 4000000 in
theorem w_J7_fill_031fb_5 {F : Nat} {σ' : St}  (C : Cx g p s m args meth c cJ7_fill_031fb 4 RJ7) (hr : meth.sig.returnType = none) :
    (∀ (n : Nat) (σ : St) (x1 : Int32) (x2 : Int32) (x3 : Int32), f_J7_fill_031fb_5 F n σ x1 x2 x3 = some σ' → ∀ (H : Heap) (locs : List Loc) (ls : Array Slot), Dy g (wD g σ ++ X) s H locs → lv_has ls 4 [(0, .ref (ga g 10)), (1, .int x1), (2, .int x2), (3, .int x3)] → W p l e (rmD 0) s m args below meth c H locs 0 0 (QV g below args s (wD g σ' ++ X)) (F0 m 5 ls [])) := by
  have hx := C.1
  have hb := C.2.1
  have hE := C.2.2.2.2.2.2.2.2
  intro n
  induction n with
  | zero =>
    intro σ x1 x2 x3 h
    cases h
  | succ n ih =>
    intro σ x1 x2 x3 h H locs ls hd hl
    rw [f_J7_fill_031fb_5] at h
    refine lv_iload_n hx hb dJ7_fill_031fb_5 rfl (lv_at hl 2 rfl) ?_
    refine lv_iload_n hx hb dJ7_fill_031fb_6 rfl (lv_at hl 3 rfl) ?_
    refine lv_icmp_ge (tgt := 20) hx hb dJ7_fill_031fb_7 (by decide) (fun c1 => ?_) (fun c1 => ?_)
    · replace h := iteT c1 h
      exact rVretS (w := wD g) C hr hd h dJ7_fill_031fb_20
    · replace h := iteF c1 h
      refine lv_aload_n hx hb dJ7_fill_031fb_10 rfl (lv_at hl 0 rfl) ?_
      refine lv_iload_n hx hb dJ7_fill_031fb_11 rfl (lv_at hl 2 rfl) ?_
      refine lv_iload_n hx hb dJ7_fill_031fb_12 rfl (lv_at hl 1 rfl) ?_
      obtain ⟨n2, h⟩ := chk h
      obtain ⟨t3, et3, h⟩ := bnd_e h
      refine st_wD_10 C hd (inb_i n2) et3 dJ7_fill_031fb_13 (fun H locs hd => ?_)
      obtain ⟨v4, ev4, h⟩ := bnd_e h
      refine lv_iinc (v := v4) (lv' := [(2, .int v4), (0, .ref (ga g 10)), (1, .int x1), (3, .int x3)]) hx hb dJ7_fill_031fb_14 hl (k := 2) rfl ((ii_1 _).trans ev4.symm) (Nat.le_of_ble_eq_true rfl) rfl (fun ls hl => ?_)
      refine lv_goto (tgt := 5) hx hb dJ7_fill_031fb_17 (by decide) ?_
      exact ih t3 x1 v4 x3 h _ _ _ hd (lv_sub hl [1, 2, 0, 3] rfl)
noncomputable def f_J7_fill_031fb (F : Nat) (σ : St) (x1 : Int32) : Option St :=
  f_J7_fill_031fb_5 F F σ x1 0 241
set_option maxRecDepth 100000 in
set_option maxHeartbeats 4000000 in
theorem c_J7_fill_031fb {l : Launch} {g : Gp} {X : va_W} (hE : E0 g) {F : Nat} {σ' : St} {σ : St} {x1 : Int32} (h : f_J7_fill_031fb F σ x1 = some σ') : Cv l g yJ7_fill_031fb cJ7_fill_031fb 4 0 [.ref (ga g 10), .int x1] (wD g σ ++ X) (wD g σ' ++ X) := by
  refine rHead hE (by decide +kernel) (Nat.le_of_ble_eq_true rfl) (fun p e s m below meth c C hr _ hd ls hl => ?_)
  have hx := C.1
  have hb := C.2.1
  have hl : lv_has ls 4 [(0, .ref (ga g 10)), (1, .int x1)] := hl
  generalize ([.ref (ga g 10), .int x1] : List Value).toArray = args at C ⊢
  have C : Cx g p s m args meth c cJ7_fill_031fb 4 RJ7 := C
  rw [f_J7_fill_031fb] at h
  refine lv_iconst (v := 0) hx hb dJ7_fill_031fb_0 ic_0 ?_
  refine lv_istore_n (lv' := [(2, .int 0), (0, .ref (ga g 10)), (1, .int x1)]) hx hb dJ7_fill_031fb_1 rfl hl (Nat.le_of_ble_eq_true rfl) rfl (fun ls hl => ?_)
  refine lv_aload_n hx hb dJ7_fill_031fb_2 rfl (lv_at hl 1 rfl) ?_
  refine len_wD_10 C hd dJ7_fill_031fb_3 ?_
  refine lv_istore_n (lv' := [(3, .int 241), (2, .int 0), (0, .ref (ga g 10)), (1, .int x1)]) hx hb dJ7_fill_031fb_4 rfl hl (Nat.le_of_ble_eq_true rfl) rfl (fun ls hl => ?_)
  exact w_J7_fill_031fb_5 C hr _ σ x1 0 241 h _ _ _ hd (lv_sub hl [2, 3, 1, 0] rfl)
end S
