section S
variable {p : Program} {l : Launch} {e : Env} {s : State} {m : MethodId} {args : Array Value} {below : List Frame} {meth : Method} {c : Code} {g : Gp} {X : va_W}
noncomputable def f_X1_fail (F : Nat) (σ : St) (x1 : Int32) (x2 : Int32) : Option (Int32 × St) :=
  bnd (ss σ 21 x1) (fun t1 => cal (f_X6_placeAt F t1 x2) (fun r2 => bnd (ss t1 22 r2) (fun t3 => some (0, t3))))
set_option maxRecDepth 100000 in
set_option maxHeartbeats 4000000 in
theorem c_X1_fail {l : Launch} {g : Gp} {X : va_W} (hE : E0 g) {F : Nat} {r' : Int32} {σ' : St} {σ : St} {x1 : Int32} {x2 : Int32} (h : f_X1_fail F σ x1 x2 = some (r', σ')) : Ci l g yX1_fail cX1_fail 3 (some .boolean) 1 [.ref (ga g 6), .int x1, .int x2] (wD g σ ++ X) r' (wD g σ' ++ X) := by
  refine rHead hE (by decide +kernel) (Nat.le_of_ble_eq_true rfl) (fun p e s m below meth c C hr _ hd ls hl => ?_)
  have hx := C.1
  have hb := C.2.1
  have hl : lv_has ls 3 [(0, .ref (ga g 6)), (1, .int x1), (2, .int x2)] := hl
  generalize ([.ref (ga g 6), .int x1, .int x2] : List Value).toArray = args at C ⊢
  have C : Cx g p s m args meth c cX1_fail 3 RX1 := C
  rw [f_X1_fail] at h
  refine lv_aload_n hx hb dX1_fail_0 rfl (lv_at hl 0 rfl) ?_
  refine lv_iload_n hx hb dX1_fail_1 rfl (lv_at hl 1 rfl) ?_
  obtain ⟨t1, et1, h⟩ := bnd_e h
  refine pX1_19 C hd et1 dX1_fail_2 (fun H locs hd => ?_)
  refine lv_aload_n hx hb dX1_fail_5 rfl (lv_at hl 0 rfl) ?_
  refine lv_aload_n hx hb dX1_fail_6 rfl (lv_at hl 0 rfl) ?_
  refine gX1_9 C hd dX1_fail_7 ?_
  refine lv_iload_n hx hb dX1_fail_10 rfl (lv_at hl 2 rfl) ?_
  obtain ⟨r2, er2, h⟩ := cal_e h
  refine rCallI C hd (c_X6_placeAt hE er2) kX1_44 5 rfl rfl rfl rfl hl.1 rfl (Nat.le_of_ble_eq_true rfl) ⟨(Nat.le_of_ble_eq_true rfl), (Nat.le_of_ble_eq_true rfl)⟩ ⟨Nat.le_refl _, Nat.le_refl _⟩ dX1_fail_11 (fun H locs hd => ?_)
  obtain ⟨t3, et3, h⟩ := bnd_e h
  refine pX1_22 C hd et3 dX1_fail_14 (fun H locs hd => ?_)
  refine lv_iconst (v := 0) hx hb dX1_fail_17 ic_0 ?_
  exact rZretS (w := wD g) C hr hd h (by decide) dX1_fail_18
noncomputable def f_X1_goOver (F : Nat) (σ : St) : Option (Int32 × St) :=
  if (σ.1 20) < 400 then (bnd (ss σ 20 ((σ.1 20) + 1)) (fun t2 => some (1, t2))) else (cal2 (f_X1_fail F σ 2 (σ.1 20)) (fun r3 t4 => if r3 = 0 ∨ r3 = 1 then some (r3, t4) else none))
set_option maxRecDepth 100000 in
set_option maxHeartbeats 4000000 in
theorem c_X1_goOver {l : Launch} {g : Gp} {X : va_W} (hE : E0 g) {F : Nat} {r' : Int32} {σ' : St} {σ : St} (h : f_X1_goOver F σ = some (r', σ')) : Ci l g yX1_goOver cX1_goOver 1 (some .boolean) 2 [.ref (ga g 6)] (wD g σ ++ X) r' (wD g σ' ++ X) := by
  refine rHead hE (by decide +kernel) (Nat.le_of_ble_eq_true rfl) (fun p e s m below meth c C hr _ hd ls hl => ?_)
  have hx := C.1
  have hb := C.2.1
  have hl : lv_has ls 1 [(0, .ref (ga g 6))] := hl
  generalize ([.ref (ga g 6)] : List Value).toArray = args at C ⊢
  have C : Cx g p s m args meth c cX1_goOver 1 RX1 := C
  rw [f_X1_goOver] at h
  refine lv_aload_n hx hb dX1_goOver_0 rfl (lv_at hl 0 rfl) ?_
  refine gX1_15 C hd dX1_goOver_1 ?_
  refine lv_sipush (v := 400) hx hb dX1_goOver_4 si_400 ?_
  refine lv_icmp_lt (tgt := 20) hx hb dX1_goOver_7 (by decide) (fun c1 => ?_) (fun c1 => ?_)
  · replace h := iteT c1 h
    refine lv_aload_n hx hb dX1_goOver_20 rfl (lv_at hl 0 rfl) ?_
    refine lv_dup hx hb dX1_goOver_21 rfl ?_
    refine gX1_15 C hd dX1_goOver_22 ?_
    refine lv_iconst (v := 1) hx hb dX1_goOver_25 ic_1 ?_
    refine lv_iadd hx hb dX1_goOver_26 ?_
    obtain ⟨t2, et2, h⟩ := bnd_e h
    refine pX1_15 C hd et2 dX1_goOver_27 (fun H locs hd => ?_)
    refine lv_iconst (v := 1) hx hb dX1_goOver_30 ic_1 ?_
    exact rZretS (w := wD g) C hr hd h (by decide) dX1_goOver_31
  · replace h := iteF c1 h
    refine lv_aload_n hx hb dX1_goOver_10 rfl (lv_at hl 0 rfl) ?_
    refine lv_iconst (v := 2) hx hb dX1_goOver_11 ic_2 ?_
    refine lv_aload_n hx hb dX1_goOver_12 rfl (lv_at hl 0 rfl) ?_
    refine gX1_15 C hd dX1_goOver_13 ?_
    obtain ⟨r3, t4, et4, h⟩ := cal2_e h
    refine rCallI C hd (c_X1_fail hE et4) kX1_50 6 rfl rfl rfl rfl hl.1 rfl (Nat.le_of_ble_eq_true rfl) ⟨(Nat.le_of_ble_eq_true rfl), (Nat.le_of_ble_eq_true rfl)⟩ ⟨Nat.le_refl _, Nat.le_refl _⟩ dX1_goOver_16 (fun H locs hd => ?_)
    obtain ⟨n5, h⟩ := chk h
    exact rZretS (w := wD g) C hr hd h n5 dX1_goOver_19
noncomputable def f_X1_expect (F : Nat) (σ : St) (x1 : Int32) : Option (Int32 × St) :=
  cal (f_X6_kindAt F σ (σ.1 20)) (fun r1 => if r1 = x1 then (cal2 (f_X1_goOver F σ) (fun r6 t7 => if r6 = 0 ∨ r6 = 1 then some (r6, t7) else none)) else (cal2 (f_X1_fail F σ 1 (σ.1 20)) (fun r3 t4 => if r3 = 0 ∨ r3 = 1 then some (r3, t4) else none)))
set_option maxRecDepth 100000 in
set_option maxHeartbeats 4000000 in
theorem c_X1_expect {l : Launch} {g : Gp} {X : va_W} (hE : E0 g) {F : Nat} {r' : Int32} {σ' : St} {σ : St} {x1 : Int32} (h : f_X1_expect F σ x1 = some (r', σ')) : Ci l g yX1_expect cX1_expect 2 (some .boolean) 3 [.ref (ga g 6), .int x1] (wD g σ ++ X) r' (wD g σ' ++ X) := by
  refine rHead hE (by decide +kernel) (Nat.le_of_ble_eq_true rfl) (fun p e s m below meth c C hr _ hd ls hl => ?_)
  have hx := C.1
  have hb := C.2.1
  have hl : lv_has ls 2 [(0, .ref (ga g 6)), (1, .int x1)] := hl
  generalize ([.ref (ga g 6), .int x1] : List Value).toArray = args at C ⊢
  have C : Cx g p s m args meth c cX1_expect 2 RX1 := C
  rw [f_X1_expect] at h
  refine lv_aload_n hx hb dX1_expect_0 rfl (lv_at hl 0 rfl) ?_
  refine gX1_9 C hd dX1_expect_1 ?_
  refine lv_aload_n hx hb dX1_expect_4 rfl (lv_at hl 0 rfl) ?_
  refine gX1_15 C hd dX1_expect_5 ?_
  obtain ⟨r1, er1, h⟩ := cal_e h
  refine rCallI C hd (c_X6_kindAt hE er1) kX1_54 5 rfl rfl rfl rfl hl.1 rfl (Nat.le_of_ble_eq_true rfl) ⟨(Nat.le_of_ble_eq_true rfl), (Nat.le_of_ble_eq_true rfl)⟩ ⟨Nat.le_refl _, Nat.le_refl _⟩ dX1_expect_8 (fun H locs hd => ?_)
  refine lv_iload_n hx hb dX1_expect_11 rfl (lv_at hl 1 rfl) ?_
  refine lv_icmp_ne (tgt := 22) hx hb dX1_expect_12 (by decide) (fun c2 => ?_) (fun c2 => ?_)
  · replace h := iteF c2 h
    refine lv_aload_n hx hb dX1_expect_22 rfl (lv_at hl 0 rfl) ?_
    refine lv_iconst (v := 1) hx hb dX1_expect_23 ic_1 ?_
    refine lv_aload_n hx hb dX1_expect_24 rfl (lv_at hl 0 rfl) ?_
    refine gX1_15 C hd dX1_expect_25 ?_
    obtain ⟨r3, t4, et4, h⟩ := cal2_e h
    refine rCallI C hd (c_X1_fail hE et4) kX1_50 6 rfl rfl rfl rfl hl.1 rfl (Nat.le_of_ble_eq_true rfl) ⟨(Nat.le_of_ble_eq_true rfl), (Nat.le_of_ble_eq_true rfl)⟩ ⟨Nat.le_refl _, Nat.le_refl _⟩ dX1_expect_28 (fun H locs hd => ?_)
    obtain ⟨n5, h⟩ := chk h
    exact rZretS (w := wD g) C hr hd h n5 dX1_expect_31
  · replace h := iteT c2 h
    refine lv_aload_n hx hb dX1_expect_15 rfl (lv_at hl 0 rfl) ?_
    obtain ⟨r6, t7, et7, h⟩ := cal2_e h
    refine rCallI C hd (c_X1_goOver hE et7) kX1_57 6 rfl rfl rfl rfl hl.1 rfl (Nat.le_of_ble_eq_true rfl) ⟨(Nat.le_of_ble_eq_true rfl), (Nat.le_of_ble_eq_true rfl)⟩ ⟨Nat.le_refl _, Nat.le_refl _⟩ dX1_expect_16 (fun H locs hd => ?_)
    refine lv_goto (tgt := 31) hx hb dX1_expect_19 (by decide) ?_
    obtain ⟨n8, h⟩ := chk h
    exact rZretS (w := wD g) C hr hd h n8 dX1_expect_31
noncomputable def f_X1_checkHead_58 (F : Nat) (σ : St) : Option (Int32 × St) :=
  cal (f_X6_kindAt F σ (σ.1 20)) (fun r1 => if r1 = 1 then (cal (f_X6_numberAt F σ ((σ.1 20) + 1)) (fun r4 => bnd (ss σ 24 r4) (fun t5 => cal2 (f_X1_goOver F t5) (fun r6 t7 => if r6 = 0 then (some (0, t7)) else (cal2 (f_X1_expect F t7 20) (fun r9 t10 => if r9 = 0 then (some (0, t10)) else (cal2 (f_X1_expect F t10 21) (fun r12 t13 => if r12 = 0 then (some (0, t13)) else (bnd (ss t13 25 (t13.1 20)) (fun t15 => some (1, t15))))))))))) else (bnd (ss σ 25 (σ.1 20)) (fun t3 => some (1, t3))))
set_option maxRecDepth 100000 in
set_option maxHeartbeats 4000000 in
theorem w_X1_checkHead_58 {F : Nat} {r' : Int32} {σ' : St}  (C : Cx g p s m args meth c cX1_checkHead 1 RX1) (hr : meth.sig.returnType = some .boolean) :
    (∀ (σ : St), f_X1_checkHead_58 F σ = some (r', σ') → ∀ (H : Heap) (locs : List Loc) (ls : Array Slot), Dy g (wD g σ ++ X) s H locs → lv_has ls 1 [(0, .ref (ga g 6))] → W p l e (rmD 4) s m args below meth c H locs 0 0 (QI g below args s (wD g σ' ++ X) r') (F0 m 58 ls [])) := by
  have hx := C.1
  have hb := C.2.1
  have hE := C.2.2.2.2.2.2.2.2
  intro σ h H locs ls hd hl
  rw [f_X1_checkHead_58] at h
  refine lv_aload_n hx hb dX1_checkHead_58 rfl (lv_at hl 0 rfl) ?_
  refine gX1_9 C hd dX1_checkHead_59 ?_
  refine lv_aload_n hx hb dX1_checkHead_62 rfl (lv_at hl 0 rfl) ?_
  refine gX1_15 C hd dX1_checkHead_63 ?_
  obtain ⟨r1, er1, h⟩ := cal_e h
  refine rCallI C hd (c_X6_kindAt hE er1) kX1_54 5 rfl rfl rfl rfl hl.1 rfl (Nat.le_of_ble_eq_true rfl) ⟨(Nat.le_of_ble_eq_true rfl), (Nat.le_of_ble_eq_true rfl)⟩ ⟨Nat.le_refl _, Nat.le_refl _⟩ dX1_checkHead_66 (fun H locs hd => ?_)
  refine lv_iconst (v := 1) hx hb dX1_checkHead_69 ic_1 ?_
  refine lv_icmp_ne (tgt := 117) hx hb dX1_checkHead_70 (by decide) (fun c2 => ?_) (fun c2 => ?_)
  · replace h := iteF c2 h
    refine lv_aload_n hx hb dX1_checkHead_117 rfl (lv_at hl 0 rfl) ?_
    refine lv_aload_n hx hb dX1_checkHead_118 rfl (lv_at hl 0 rfl) ?_
    refine gX1_15 C hd dX1_checkHead_119 ?_
    obtain ⟨t3, et3, h⟩ := bnd_e h
    refine pX1_31 C hd et3 dX1_checkHead_122 (fun H locs hd => ?_)
    refine lv_iconst (v := 1) hx hb dX1_checkHead_125 ic_1 ?_
    exact rZretS (w := wD g) C hr hd h (by decide) dX1_checkHead_126
  · replace h := iteT c2 h
    refine lv_aload_n hx hb dX1_checkHead_73 rfl (lv_at hl 0 rfl) ?_
    refine lv_aload_n hx hb dX1_checkHead_74 rfl (lv_at hl 0 rfl) ?_
    refine gX1_9 C hd dX1_checkHead_75 ?_
    refine lv_aload_n hx hb dX1_checkHead_78 rfl (lv_at hl 0 rfl) ?_
    refine gX1_15 C hd dX1_checkHead_79 ?_
    refine lv_iconst (v := 1) hx hb dX1_checkHead_82 ic_1 ?_
    refine lv_iadd hx hb dX1_checkHead_83 ?_
    obtain ⟨r4, er4, h⟩ := cal_e h
    refine rCallI C hd (c_X6_numberAt hE er4) kX1_60 5 rfl rfl rfl rfl hl.1 rfl (Nat.le_of_ble_eq_true rfl) ⟨(Nat.le_of_ble_eq_true rfl), (Nat.le_of_ble_eq_true rfl)⟩ ⟨Nat.le_refl _, Nat.le_refl _⟩ dX1_checkHead_84 (fun H locs hd => ?_)
    obtain ⟨t5, et5, h⟩ := bnd_e h
    refine pX1_28 C hd et5 dX1_checkHead_87 (fun H locs hd => ?_)
    refine lv_aload_n hx hb dX1_checkHead_90 rfl (lv_at hl 0 rfl) ?_
    obtain ⟨r6, t7, et7, h⟩ := cal2_e h
    refine rCallI C hd (c_X1_goOver hE et7) kX1_57 6 rfl rfl rfl rfl hl.1 rfl (Nat.le_of_ble_eq_true rfl) ⟨(Nat.le_of_ble_eq_true rfl), (Nat.le_of_ble_eq_true rfl)⟩ ⟨Nat.le_refl _, Nat.le_refl _⟩ dX1_checkHead_91 (fun H locs hd => ?_)
    refine lv_if_eq (tgt := 115) hx hb dX1_checkHead_94 (by decide) (fun c8 => ?_) (fun c8 => ?_)
    · replace h := iteT c8 h
      refine lv_iconst (v := 0) hx hb dX1_checkHead_115 ic_0 ?_
      exact rZretS (w := wD g) C hr hd h (by decide) dX1_checkHead_116
    · replace h := iteF c8 h
      refine lv_aload_n hx hb dX1_checkHead_97 rfl (lv_at hl 0 rfl) ?_
      refine lv_bipush (v := 20) hx hb dX1_checkHead_98 bi_20 ?_
      obtain ⟨r9, t10, et10, h⟩ := cal2_e h
      refine rCallI C hd (c_X1_expect hE et10) kX1_63 6 rfl rfl rfl rfl hl.1 rfl (Nat.le_of_ble_eq_true rfl) ⟨(Nat.le_of_ble_eq_true rfl), (Nat.le_of_ble_eq_true rfl)⟩ ⟨Nat.le_refl _, Nat.le_refl _⟩ dX1_checkHead_100 (fun H locs hd => ?_)
      refine lv_if_eq (tgt := 115) hx hb dX1_checkHead_103 (by decide) (fun c11 => ?_) (fun c11 => ?_)
      · replace h := iteT c11 h
        refine lv_iconst (v := 0) hx hb dX1_checkHead_115 ic_0 ?_
        exact rZretS (w := wD g) C hr hd h (by decide) dX1_checkHead_116
      · replace h := iteF c11 h
        refine lv_aload_n hx hb dX1_checkHead_106 rfl (lv_at hl 0 rfl) ?_
        refine lv_bipush (v := 21) hx hb dX1_checkHead_107 bi_21 ?_
        obtain ⟨r12, t13, et13, h⟩ := cal2_e h
        refine rCallI C hd (c_X1_expect hE et13) kX1_63 6 rfl rfl rfl rfl hl.1 rfl (Nat.le_of_ble_eq_true rfl) ⟨(Nat.le_of_ble_eq_true rfl), (Nat.le_of_ble_eq_true rfl)⟩ ⟨Nat.le_refl _, Nat.le_refl _⟩ dX1_checkHead_109 (fun H locs hd => ?_)
        refine lv_if_ne (tgt := 117) hx hb dX1_checkHead_112 (by decide) (fun c14 => ?_) (fun c14 => ?_)
        · replace h := iteF c14 h
          refine lv_aload_n hx hb dX1_checkHead_117 rfl (lv_at hl 0 rfl) ?_
          refine lv_aload_n hx hb dX1_checkHead_118 rfl (lv_at hl 0 rfl) ?_
          refine gX1_15 C hd dX1_checkHead_119 ?_
          obtain ⟨t15, et15, h⟩ := bnd_e h
          refine pX1_31 C hd et15 dX1_checkHead_122 (fun H locs hd => ?_)
          refine lv_iconst (v := 1) hx hb dX1_checkHead_125 ic_1 ?_
          exact rZretS (w := wD g) C hr hd h (by decide) dX1_checkHead_126
        · replace h := iteT c14 h
          refine lv_iconst (v := 0) hx hb dX1_checkHead_115 ic_0 ?_
          exact rZretS (w := wD g) C hr hd h (by decide) dX1_checkHead_116
noncomputable def f_X1_checkHead (F : Nat) (σ : St) : Option (Int32 × St) :=
  cal (f_X6_kindAt F σ (σ.1 20)) (fun r1 => if r1 = 0 then (cal (f_X6_numberAt F σ ((σ.1 20) + 1)) (fun r3 => bnd (ss σ 23 r3) (fun t4 => cal2 (f_X1_goOver F t4) (fun r5 t6 => if r5 = 0 then (some (0, t6)) else (cal2 (f_X1_expect F t6 20) (fun r8 t9 => if r8 = 0 then (some (0, t9)) else (cal2 (f_X1_expect F t9 21) (fun r11 t12 => if r11 = 0 then (some (0, t12)) else (f_X1_checkHead_58 F t12))))))))) else (f_X1_checkHead_58 F σ))
set_option maxRecDepth 100000 in
set_option maxHeartbeats 4000000 in
theorem c_X1_checkHead {l : Launch} {g : Gp} {X : va_W} (hE : E0 g) {F : Nat} {r' : Int32} {σ' : St} {σ : St} (h : f_X1_checkHead F σ = some (r', σ')) : Ci l g yX1_checkHead cX1_checkHead 1 (some .boolean) 4 [.ref (ga g 6)] (wD g σ ++ X) r' (wD g σ' ++ X) := by
  refine rHead hE (by decide +kernel) (Nat.le_of_ble_eq_true rfl) (fun p e s m below meth c C hr _ hd ls hl => ?_)
  have hx := C.1
  have hb := C.2.1
  have hl : lv_has ls 1 [(0, .ref (ga g 6))] := hl
  generalize ([.ref (ga g 6)] : List Value).toArray = args at C ⊢
  have C : Cx g p s m args meth c cX1_checkHead 1 RX1 := C
  rw [f_X1_checkHead] at h
  refine lv_aload_n hx hb dX1_checkHead_0 rfl (lv_at hl 0 rfl) ?_
  refine gX1_9 C hd dX1_checkHead_1 ?_
  refine lv_aload_n hx hb dX1_checkHead_4 rfl (lv_at hl 0 rfl) ?_
  refine gX1_15 C hd dX1_checkHead_5 ?_
  obtain ⟨r1, er1, h⟩ := cal_e h
  refine rCallI C hd (c_X6_kindAt hE er1) kX1_54 5 rfl rfl rfl rfl hl.1 rfl (Nat.le_of_ble_eq_true rfl) ⟨(Nat.le_of_ble_eq_true rfl), (Nat.le_of_ble_eq_true rfl)⟩ ⟨Nat.le_refl _, Nat.le_refl _⟩ dX1_checkHead_8 (fun H locs hd => ?_)
  refine lv_if_ne (tgt := 58) hx hb dX1_checkHead_11 (by decide) (fun c2 => ?_) (fun c2 => ?_)
  · replace h := iteF c2 h
    exact w_X1_checkHead_58 C hr σ h _ _ _ hd (lv_sub hl [0] rfl)
  · replace h := iteT c2 h
    refine lv_aload_n hx hb dX1_checkHead_14 rfl (lv_at hl 0 rfl) ?_
    refine lv_aload_n hx hb dX1_checkHead_15 rfl (lv_at hl 0 rfl) ?_
    refine gX1_9 C hd dX1_checkHead_16 ?_
    refine lv_aload_n hx hb dX1_checkHead_19 rfl (lv_at hl 0 rfl) ?_
    refine gX1_15 C hd dX1_checkHead_20 ?_
    refine lv_iconst (v := 1) hx hb dX1_checkHead_23 ic_1 ?_
    refine lv_iadd hx hb dX1_checkHead_24 ?_
    obtain ⟨r3, er3, h⟩ := cal_e h
    refine rCallI C hd (c_X6_numberAt hE er3) kX1_60 5 rfl rfl rfl rfl hl.1 rfl (Nat.le_of_ble_eq_true rfl) ⟨(Nat.le_of_ble_eq_true rfl), (Nat.le_of_ble_eq_true rfl)⟩ ⟨Nat.le_refl _, Nat.le_refl _⟩ dX1_checkHead_25 (fun H locs hd => ?_)
    obtain ⟨t4, et4, h⟩ := bnd_e h
    refine pX1_25 C hd et4 dX1_checkHead_28 (fun H locs hd => ?_)
    refine lv_aload_n hx hb dX1_checkHead_31 rfl (lv_at hl 0 rfl) ?_
    obtain ⟨r5, t6, et6, h⟩ := cal2_e h
    refine rCallI C hd (c_X1_goOver hE et6) kX1_57 6 rfl rfl rfl rfl hl.1 rfl (Nat.le_of_ble_eq_true rfl) ⟨(Nat.le_of_ble_eq_true rfl), (Nat.le_of_ble_eq_true rfl)⟩ ⟨Nat.le_refl _, Nat.le_refl _⟩ dX1_checkHead_32 (fun H locs hd => ?_)
    refine lv_if_eq (tgt := 56) hx hb dX1_checkHead_35 (by decide) (fun c7 => ?_) (fun c7 => ?_)
    · replace h := iteT c7 h
      refine lv_iconst (v := 0) hx hb dX1_checkHead_56 ic_0 ?_
      exact rZretS (w := wD g) C hr hd h (by decide) dX1_checkHead_57
    · replace h := iteF c7 h
      refine lv_aload_n hx hb dX1_checkHead_38 rfl (lv_at hl 0 rfl) ?_
      refine lv_bipush (v := 20) hx hb dX1_checkHead_39 bi_20 ?_
      obtain ⟨r8, t9, et9, h⟩ := cal2_e h
      refine rCallI C hd (c_X1_expect hE et9) kX1_63 6 rfl rfl rfl rfl hl.1 rfl (Nat.le_of_ble_eq_true rfl) ⟨(Nat.le_of_ble_eq_true rfl), (Nat.le_of_ble_eq_true rfl)⟩ ⟨Nat.le_refl _, Nat.le_refl _⟩ dX1_checkHead_41 (fun H locs hd => ?_)
      refine lv_if_eq (tgt := 56) hx hb dX1_checkHead_44 (by decide) (fun c10 => ?_) (fun c10 => ?_)
      · replace h := iteT c10 h
        refine lv_iconst (v := 0) hx hb dX1_checkHead_56 ic_0 ?_
        exact rZretS (w := wD g) C hr hd h (by decide) dX1_checkHead_57
      · replace h := iteF c10 h
        refine lv_aload_n hx hb dX1_checkHead_47 rfl (lv_at hl 0 rfl) ?_
        refine lv_bipush (v := 21) hx hb dX1_checkHead_48 bi_21 ?_
        obtain ⟨r11, t12, et12, h⟩ := cal2_e h
        refine rCallI C hd (c_X1_expect hE et12) kX1_63 6 rfl rfl rfl rfl hl.1 rfl (Nat.le_of_ble_eq_true rfl) ⟨(Nat.le_of_ble_eq_true rfl), (Nat.le_of_ble_eq_true rfl)⟩ ⟨Nat.le_refl _, Nat.le_refl _⟩ dX1_checkHead_50 (fun H locs hd => ?_)
        refine lv_if_ne (tgt := 58) hx hb dX1_checkHead_53 (by decide) (fun c13 => ?_) (fun c13 => ?_)
        · replace h := iteF c13 h
          exact w_X1_checkHead_58 C hr t12 h _ _ _ hd (lv_sub hl [0] rfl)
        · replace h := iteT c13 h
          refine lv_iconst (v := 0) hx hb dX1_checkHead_56 ic_0 ?_
          exact rZretS (w := wD g) C hr hd h (by decide) dX1_checkHead_57
noncomputable def f_X1_checkExpression_123 (F : Nat) (σ : St) (x1 : Int32) (x2 : Int32) : Option (Int32 × St) :=
  if x2 = 0 then (cal2 (f_X1_fail F σ 1 (σ.1 20)) (fun r2 t3 => if r2 = 0 ∨ r2 = 1 then some (r2, t3) else none)) else (if x1 = 0 then (some (1, σ)) else (cal2 (f_X1_fail F σ 1 (σ.1 20)) (fun r6 t7 => if r6 = 0 ∨ r6 = 1 then some (r6, t7) else none)))
set_option maxRecDepth 100000 in
set_option maxHeartbeats 4000000 in
theorem w_X1_checkExpression_123 {F : Nat} {r' : Int32} {σ' : St}  (C : Cx g p s m args meth c cX1_checkExpression 5 RX1) (hr : meth.sig.returnType = some .boolean) :
    (∀ (σ : St) (x1 : Int32) (x2 : Int32), f_X1_checkExpression_123 F σ x1 x2 = some (r', σ') → ∀ (H : Heap) (locs : List Loc) (ls : Array Slot), Dy g (wD g σ ++ X) s H locs → lv_has ls 5 [(0, .ref (ga g 6)), (1, .int x1), (2, .int x2)] → W p l e (rmD 3) s m args below meth c H locs 0 0 (QI g below args s (wD g σ' ++ X) r') (F0 m 123 ls [])) := by
  have hx := C.1
  have hb := C.2.1
  have hE := C.2.2.2.2.2.2.2.2
  intro σ x1 x2 h H locs ls hd hl
  rw [f_X1_checkExpression_123] at h
  refine lv_iload_n hx hb dX1_checkExpression_123 rfl (lv_at hl 2 rfl) ?_
  refine lv_if_eq (tgt := 133) hx hb dX1_checkExpression_124 (by decide) (fun c1 => ?_) (fun c1 => ?_)
  · replace h := iteT c1 h
    refine lv_aload_n hx hb dX1_checkExpression_133 rfl (lv_at hl 0 rfl) ?_
    refine lv_iconst (v := 1) hx hb dX1_checkExpression_134 ic_1 ?_
    refine lv_aload_n hx hb dX1_checkExpression_135 rfl (lv_at hl 0 rfl) ?_
    refine gX1_15 C hd dX1_checkExpression_136 ?_
    obtain ⟨r2, t3, et3, h⟩ := cal2_e h
    refine rCallI C hd (c_X1_fail hE et3) kX1_50 6 rfl rfl rfl rfl hl.1 rfl (Nat.le_of_ble_eq_true rfl) ⟨(Nat.le_of_ble_eq_true rfl), (Nat.le_of_ble_eq_true rfl)⟩ ⟨Nat.le_refl _, Nat.le_refl _⟩ dX1_checkExpression_139 (fun H locs hd => ?_)
    obtain ⟨n4, h⟩ := chk h
    exact rZretS (w := wD g) C hr hd h n4 dX1_checkExpression_142
  · replace h := iteF c1 h
    refine lv_iload_n hx hb dX1_checkExpression_127 rfl (lv_at hl 1 rfl) ?_
    refine lv_if_ne (tgt := 133) hx hb dX1_checkExpression_128 (by decide) (fun c5 => ?_) (fun c5 => ?_)
    · replace h := iteF c5 h
      refine lv_aload_n hx hb dX1_checkExpression_133 rfl (lv_at hl 0 rfl) ?_
      refine lv_iconst (v := 1) hx hb dX1_checkExpression_134 ic_1 ?_
      refine lv_aload_n hx hb dX1_checkExpression_135 rfl (lv_at hl 0 rfl) ?_
      refine gX1_15 C hd dX1_checkExpression_136 ?_
      obtain ⟨r6, t7, et7, h⟩ := cal2_e h
      refine rCallI C hd (c_X1_fail hE et7) kX1_50 6 rfl rfl rfl rfl hl.1 rfl (Nat.le_of_ble_eq_true rfl) ⟨(Nat.le_of_ble_eq_true rfl), (Nat.le_of_ble_eq_true rfl)⟩ ⟨Nat.le_refl _, Nat.le_refl _⟩ dX1_checkExpression_139 (fun H locs hd => ?_)
      obtain ⟨n8, h⟩ := chk h
      exact rZretS (w := wD g) C hr hd h n8 dX1_checkExpression_142
    · replace h := iteT c5 h
      refine lv_iconst (v := 1) hx hb dX1_checkExpression_131 ic_1 ?_
      exact rZretS (w := wD g) C hr hd h (by decide) dX1_checkExpression_132
noncomputable def f_X1_checkExpression_143 (F : Nat) (k_6 : St → Int32 → Int32 → Int32 → Option (Int32 × St)) (σ : St) (x1 : Int32) (x2 : Int32) (x3 : Int32) : Option (Int32 × St) :=
  cal2 (f_X1_goOver F σ) (fun r1 t2 => if r1 = 0 then (some (0, t2)) else (bnd (x3 + 1) (fun v4 => k_6 t2 x1 x2 v4)))
set_option maxRecDepth 100000 in
set_option maxHeartbeats 4000000 in
theorem w_X1_checkExpression_143 {F : Nat} {r' : Int32} {σ' : St}  (C : Cx g p s m args meth c cX1_checkExpression 5 RX1) (hr : meth.sig.returnType = some .boolean)
    {k_6 : St → Int32 → Int32 → Int32 → Option (Int32 × St)} (hk_6 : (∀ (σ : St) (x1 : Int32) (x2 : Int32) (x3 : Int32), k_6 σ x1 x2 x3 = some (r', σ') → ∀ (H : Heap) (locs : List Loc) (ls : Array Slot), Dy g (wD g σ ++ X) s H locs → lv_has ls 5 [(0, .ref (ga g 6)), (1, .int x1), (2, .int x2), (3, .int x3)] → W p l e (rmD 3) s m args below meth c H locs 0 0 (QI g below args s (wD g σ' ++ X) r') (F0 m 6 ls []))) :
    (∀ (σ : St) (x1 : Int32) (x2 : Int32) (x3 : Int32), f_X1_checkExpression_143 F k_6 σ x1 x2 x3 = some (r', σ') → ∀ (H : Heap) (locs : List Loc) (ls : Array Slot), Dy g (wD g σ ++ X) s H locs → lv_has ls 5 [(0, .ref (ga g 6)), (1, .int x1), (2, .int x2), (3, .int x3)] → W p l e (rmD 3) s m args below meth c H locs 0 0 (QI g below args s (wD g σ' ++ X) r') (F0 m 143 ls [])) := by
  have hx := C.1
  have hb := C.2.1
  have hE := C.2.2.2.2.2.2.2.2
  intro σ x1 x2 x3 h H locs ls hd hl
  rw [f_X1_checkExpression_143] at h
  refine lv_aload_n hx hb dX1_checkExpression_143 rfl (lv_at hl 0 rfl) ?_
  obtain ⟨r1, t2, et2, h⟩ := cal2_e h
  refine rCallI C hd (c_X1_goOver hE et2) kX1_57 6 rfl rfl rfl rfl hl.1 rfl (Nat.le_of_ble_eq_true rfl) ⟨(Nat.le_of_ble_eq_true rfl), (Nat.le_of_ble_eq_true rfl)⟩ ⟨Nat.le_refl _, Nat.le_refl _⟩ dX1_checkExpression_144 (fun H locs hd => ?_)
  refine lv_if_ne (tgt := 152) hx hb dX1_checkExpression_147 (by decide) (fun c3 => ?_) (fun c3 => ?_)
  · replace h := iteF c3 h
    obtain ⟨v4, ev4, h⟩ := bnd_e h
    refine lv_iinc (v := v4) (lv' := [(3, .int v4), (0, .ref (ga g 6)), (1, .int x1), (2, .int x2)]) hx hb dX1_checkExpression_152 hl (k := 3) rfl ((ii_1 _).trans ev4.symm) (Nat.le_of_ble_eq_true rfl) rfl (fun ls hl => ?_)
    refine lv_goto (tgt := 6) hx hb dX1_checkExpression_155 (by decide) ?_
    exact hk_6 t2 x1 x2 v4 h _ _ _ hd (lv_sub hl [1, 2, 3, 0] rfl)
  · replace h := iteT c3 h
    refine lv_iconst (v := 0) hx hb dX1_checkExpression_150 ic_0 ?_
    exact rZretS (w := wD g) C hr hd h (by decide) dX1_checkExpression_151
noncomputable def f_X1_checkExpression_102 (F : Nat) (k_6 : St → Int32 → Int32 → Int32 → Option (Int32 × St)) (σ : St) (x1 : Int32) (x2 : Int32) (x3 : Int32) (x4 : Int32) : Option (Int32 × St) :=
  if x2 = 0 then (f_X1_checkExpression_123 F σ x1 x2) else (if x4 = 28 then (if x1 ≤ 0 then (f_X1_checkExpression_123 F σ x1 x2) else (bnd (x1 + (-1 : Int32)) (fun v4 => f_X1_checkExpression_143 F k_6 σ v4 x2 x3))) else (f_X1_checkExpression_123 F σ x1 x2))
set_option maxRecDepth 100000 in
set_option maxHeartbeats 4000000 in
theorem w_X1_checkExpression_102 {F : Nat} {r' : Int32} {σ' : St}  (C : Cx g p s m args meth c cX1_checkExpression 5 RX1) (hr : meth.sig.returnType = some .boolean)
    {k_6 : St → Int32 → Int32 → Int32 → Option (Int32 × St)} (hk_6 : (∀ (σ : St) (x1 : Int32) (x2 : Int32) (x3 : Int32), k_6 σ x1 x2 x3 = some (r', σ') → ∀ (H : Heap) (locs : List Loc) (ls : Array Slot), Dy g (wD g σ ++ X) s H locs → lv_has ls 5 [(0, .ref (ga g 6)), (1, .int x1), (2, .int x2), (3, .int x3)] → W p l e (rmD 3) s m args below meth c H locs 0 0 (QI g below args s (wD g σ' ++ X) r') (F0 m 6 ls []))) :
    (∀ (σ : St) (x1 : Int32) (x2 : Int32) (x3 : Int32) (x4 : Int32), f_X1_checkExpression_102 F k_6 σ x1 x2 x3 x4 = some (r', σ') → ∀ (H : Heap) (locs : List Loc) (ls : Array Slot), Dy g (wD g σ ++ X) s H locs → lv_has ls 5 [(0, .ref (ga g 6)), (1, .int x1), (2, .int x2), (3, .int x3), (4, .int x4)] → W p l e (rmD 3) s m args below meth c H locs 0 0 (QI g below args s (wD g σ' ++ X) r') (F0 m 102 ls [])) := by
  have hx := C.1
  have hb := C.2.1
  have hE := C.2.2.2.2.2.2.2.2
  intro σ x1 x2 x3 x4 h H locs ls hd hl
  rw [f_X1_checkExpression_102] at h
  refine lv_iload_n hx hb dX1_checkExpression_102 rfl (lv_at hl 2 rfl) ?_
  refine lv_if_eq (tgt := 123) hx hb dX1_checkExpression_103 (by decide) (fun c1 => ?_) (fun c1 => ?_)
  · replace h := iteT c1 h
    exact w_X1_checkExpression_123 C hr σ x1 x2 h _ _ _ hd (lv_sub hl [0, 1, 2] rfl)
  · replace h := iteF c1 h
    refine lv_iload hx hb dX1_checkExpression_106 (lv_at hl 4 rfl) ?_
    refine lv_bipush (v := 28) hx hb dX1_checkExpression_108 bi_28 ?_
    refine lv_icmp_ne (tgt := 123) hx hb dX1_checkExpression_110 (by decide) (fun c2 => ?_) (fun c2 => ?_)
    · replace h := iteF c2 h
      exact w_X1_checkExpression_123 C hr σ x1 x2 h _ _ _ hd (lv_sub hl [0, 1, 2] rfl)
    · replace h := iteT c2 h
      refine lv_iload_n hx hb dX1_checkExpression_113 rfl (lv_at hl 1 rfl) ?_
      refine lv_if_le (tgt := 123) hx hb dX1_checkExpression_114 (by decide) (fun c3 => ?_) (fun c3 => ?_)
      · replace h := iteT c3 h
        exact w_X1_checkExpression_123 C hr σ x1 x2 h _ _ _ hd (lv_sub hl [0, 1, 2] rfl)
      · replace h := iteF c3 h
        obtain ⟨v4, ev4, h⟩ := bnd_e h
        refine lv_iinc (v := v4) (lv' := [(1, .int v4), (0, .ref (ga g 6)), (2, .int x2), (3, .int x3), (4, .int x4)]) hx hb dX1_checkExpression_117 hl (k := 1) rfl ((ii_m1 _).trans ev4.symm) (Nat.le_of_ble_eq_true rfl) rfl (fun ls hl => ?_)
        refine lv_goto (tgt := 143) hx hb dX1_checkExpression_120 (by decide) ?_
        exact w_X1_checkExpression_143 C hr hk_6 σ v4 x2 x3 h _ _ _ hd (lv_sub hl [1, 0, 2, 3] rfl)
noncomputable def f_X1_checkExpression_79 (F : Nat) (k_6 : St → Int32 → Int32 → Int32 → Option (Int32 × St)) (σ : St) (x1 : Int32) (x2 : Int32) (x3 : Int32) (x4 : Int32) : Option (Int32 × St) :=
  if x2 = 0 then (f_X1_checkExpression_102 F k_6 σ x1 x2 x3 x4) else (if x4 < 22 then (f_X1_checkExpression_102 F k_6 σ x1 x2 x3 x4) else (if 26 < x4 then (f_X1_checkExpression_102 F k_6 σ x1 x2 x3 x4) else (f_X1_checkExpression_143 F k_6 σ x1 0 x3)))
set_option maxRecDepth 100000 in
set_option maxHeartbeats 4000000 in
theorem w_X1_checkExpression_79 {F : Nat} {r' : Int32} {σ' : St}  (C : Cx g p s m args meth c cX1_checkExpression 5 RX1) (hr : meth.sig.returnType = some .boolean)
    {k_6 : St → Int32 → Int32 → Int32 → Option (Int32 × St)} (hk_6 : (∀ (σ : St) (x1 : Int32) (x2 : Int32) (x3 : Int32), k_6 σ x1 x2 x3 = some (r', σ') → ∀ (H : Heap) (locs : List Loc) (ls : Array Slot), Dy g (wD g σ ++ X) s H locs → lv_has ls 5 [(0, .ref (ga g 6)), (1, .int x1), (2, .int x2), (3, .int x3)] → W p l e (rmD 3) s m args below meth c H locs 0 0 (QI g below args s (wD g σ' ++ X) r') (F0 m 6 ls []))) :
    (∀ (σ : St) (x1 : Int32) (x2 : Int32) (x3 : Int32) (x4 : Int32), f_X1_checkExpression_79 F k_6 σ x1 x2 x3 x4 = some (r', σ') → ∀ (H : Heap) (locs : List Loc) (ls : Array Slot), Dy g (wD g σ ++ X) s H locs → lv_has ls 5 [(0, .ref (ga g 6)), (1, .int x1), (2, .int x2), (3, .int x3), (4, .int x4)] → W p l e (rmD 3) s m args below meth c H locs 0 0 (QI g below args s (wD g σ' ++ X) r') (F0 m 79 ls [])) := by
  have hx := C.1
  have hb := C.2.1
  have hE := C.2.2.2.2.2.2.2.2
  intro σ x1 x2 x3 x4 h H locs ls hd hl
  rw [f_X1_checkExpression_79] at h
  refine lv_iload_n hx hb dX1_checkExpression_79 rfl (lv_at hl 2 rfl) ?_
  refine lv_if_eq (tgt := 102) hx hb dX1_checkExpression_80 (by decide) (fun c1 => ?_) (fun c1 => ?_)
  · replace h := iteT c1 h
    exact w_X1_checkExpression_102 C hr hk_6 σ x1 x2 x3 x4 h _ _ _ hd (lv_sub hl [0, 1, 2, 3, 4] rfl)
  · replace h := iteF c1 h
    refine lv_iload hx hb dX1_checkExpression_83 (lv_at hl 4 rfl) ?_
    refine lv_bipush (v := 22) hx hb dX1_checkExpression_85 bi_22 ?_
    refine lv_icmp_lt (tgt := 102) hx hb dX1_checkExpression_87 (by decide) (fun c2 => ?_) (fun c2 => ?_)
    · replace h := iteT c2 h
      exact w_X1_checkExpression_102 C hr hk_6 σ x1 x2 x3 x4 h _ _ _ hd (lv_sub hl [0, 1, 2, 3, 4] rfl)
    · replace h := iteF c2 h
      refine lv_iload hx hb dX1_checkExpression_90 (lv_at hl 4 rfl) ?_
      refine lv_bipush (v := 26) hx hb dX1_checkExpression_92 bi_26 ?_
      refine lv_icmp_gt (tgt := 102) hx hb dX1_checkExpression_94 (by decide) (fun c3 => ?_) (fun c3 => ?_)
      · replace h := iteT c3 h
        exact w_X1_checkExpression_102 C hr hk_6 σ x1 x2 x3 x4 h _ _ _ hd (lv_sub hl [0, 1, 2, 3, 4] rfl)
      · replace h := iteF c3 h
        refine lv_iconst (v := 0) hx hb dX1_checkExpression_97 ic_0 ?_
        refine lv_istore_n (lv' := [(2, .int 0), (0, .ref (ga g 6)), (1, .int x1), (3, .int x3), (4, .int x4)]) hx hb dX1_checkExpression_98 rfl hl (Nat.le_of_ble_eq_true rfl) rfl (fun ls hl => ?_)
        refine lv_goto (tgt := 143) hx hb dX1_checkExpression_99 (by decide) ?_
        exact w_X1_checkExpression_143 C hr hk_6 σ x1 0 x3 h _ _ _ hd (lv_sub hl [1, 2, 0, 3] rfl)
noncomputable def f_X1_checkExpression_56 (F : Nat) (k_6 : St → Int32 → Int32 → Int32 → Option (Int32 × St)) (σ : St) (x1 : Int32) (x2 : Int32) (x3 : Int32) (x4 : Int32) : Option (Int32 × St) :=
  if x2 = 0 then (if x4 < 14 then (f_X1_checkExpression_79 F k_6 σ x1 x2 x3 x4) else (if 20 < x4 then (f_X1_checkExpression_79 F k_6 σ x1 x2 x3 x4) else (f_X1_checkExpression_143 F k_6 σ x1 1 x3))) else (f_X1_checkExpression_79 F k_6 σ x1 x2 x3 x4)
set_option maxRecDepth 100000 in
set_option maxHeartbeats 4000000 in
theorem w_X1_checkExpression_56 {F : Nat} {r' : Int32} {σ' : St}  (C : Cx g p s m args meth c cX1_checkExpression 5 RX1) (hr : meth.sig.returnType = some .boolean)
    {k_6 : St → Int32 → Int32 → Int32 → Option (Int32 × St)} (hk_6 : (∀ (σ : St) (x1 : Int32) (x2 : Int32) (x3 : Int32), k_6 σ x1 x2 x3 = some (r', σ') → ∀ (H : Heap) (locs : List Loc) (ls : Array Slot), Dy g (wD g σ ++ X) s H locs → lv_has ls 5 [(0, .ref (ga g 6)), (1, .int x1), (2, .int x2), (3, .int x3)] → W p l e (rmD 3) s m args below meth c H locs 0 0 (QI g below args s (wD g σ' ++ X) r') (F0 m 6 ls []))) :
    (∀ (σ : St) (x1 : Int32) (x2 : Int32) (x3 : Int32) (x4 : Int32), f_X1_checkExpression_56 F k_6 σ x1 x2 x3 x4 = some (r', σ') → ∀ (H : Heap) (locs : List Loc) (ls : Array Slot), Dy g (wD g σ ++ X) s H locs → lv_has ls 5 [(0, .ref (ga g 6)), (1, .int x1), (2, .int x2), (3, .int x3), (4, .int x4)] → W p l e (rmD 3) s m args below meth c H locs 0 0 (QI g below args s (wD g σ' ++ X) r') (F0 m 56 ls [])) := by
  have hx := C.1
  have hb := C.2.1
  have hE := C.2.2.2.2.2.2.2.2
  intro σ x1 x2 x3 x4 h H locs ls hd hl
  rw [f_X1_checkExpression_56] at h
  refine lv_iload_n hx hb dX1_checkExpression_56 rfl (lv_at hl 2 rfl) ?_
  refine lv_if_ne (tgt := 79) hx hb dX1_checkExpression_57 (by decide) (fun c1 => ?_) (fun c1 => ?_)
  · replace h := iteF c1 h
    exact w_X1_checkExpression_79 C hr hk_6 σ x1 x2 x3 x4 h _ _ _ hd (lv_sub hl [0, 1, 2, 3, 4] rfl)
  · replace h := iteT c1 h
    refine lv_iload hx hb dX1_checkExpression_60 (lv_at hl 4 rfl) ?_
    refine lv_bipush (v := 14) hx hb dX1_checkExpression_62 bi_14 ?_
    refine lv_icmp_lt (tgt := 79) hx hb dX1_checkExpression_64 (by decide) (fun c2 => ?_) (fun c2 => ?_)
    · replace h := iteT c2 h
      exact w_X1_checkExpression_79 C hr hk_6 σ x1 x2 x3 x4 h _ _ _ hd (lv_sub hl [0, 1, 2, 3, 4] rfl)
    · replace h := iteF c2 h
      refine lv_iload hx hb dX1_checkExpression_67 (lv_at hl 4 rfl) ?_
      refine lv_bipush (v := 20) hx hb dX1_checkExpression_69 bi_20 ?_
      refine lv_icmp_gt (tgt := 79) hx hb dX1_checkExpression_71 (by decide) (fun c3 => ?_) (fun c3 => ?_)
      · replace h := iteT c3 h
        exact w_X1_checkExpression_79 C hr hk_6 σ x1 x2 x3 x4 h _ _ _ hd (lv_sub hl [0, 1, 2, 3, 4] rfl)
      · replace h := iteF c3 h
        refine lv_iconst (v := 1) hx hb dX1_checkExpression_74 ic_1 ?_
        refine lv_istore_n (lv' := [(2, .int 1), (0, .ref (ga g 6)), (1, .int x1), (3, .int x3), (4, .int x4)]) hx hb dX1_checkExpression_75 rfl hl (Nat.le_of_ble_eq_true rfl) rfl (fun ls hl => ?_)
        refine lv_goto (tgt := 143) hx hb dX1_checkExpression_76 (by decide) ?_
        exact w_X1_checkExpression_143 C hr hk_6 σ x1 1 x3 h _ _ _ hd (lv_sub hl [1, 2, 0, 3] rfl)
noncomputable def f_X1_checkExpression_6 (F : Nat) : Nat → St → Int32 → Int32 → Int32 → Option (Int32 × St)
  | 0, _, _, _, _ => none
  | n + 1, σ, x1, x2, x3 => if 400 < x3 then (some (0, σ)) else (cal (f_X6_kindAt F σ (σ.1 20)) (fun r2 => if x2 = 0 then (if r2 = 27 then (bnd (x1 + 1) (fun v5 => if v5 ≤ 6 then (f_X1_checkExpression_143 F (f_X1_checkExpression_6 F n) σ v5 x2 x3) else (cal2 (f_X1_fail F σ 2 (σ.1 20)) (fun r7 t8 => if r7 = 0 ∨ r7 = 1 then some (r7, t8) else none)))) else (f_X1_checkExpression_56 F (f_X1_checkExpression_6 F n) σ x1 x2 x3 r2)) else (f_X1_checkExpression_56 F (f_X1_checkExpression_6 F n) σ x1 x2 x3 r2)))
set_option maxRecDepth 100000 in
set_option maxHeartbeats 4000000 in
theorem w_X1_checkExpression_6 {F : Nat} {r' : Int32} {σ' : St}  (C : Cx g p s m args meth c cX1_checkExpression 5 RX1) (hr : meth.sig.returnType = some .boolean) :
    (∀ (n : Nat) (σ : St) (x1 : Int32) (x2 : Int32) (x3 : Int32), f_X1_checkExpression_6 F n σ x1 x2 x3 = some (r', σ') → ∀ (H : Heap) (locs : List Loc) (ls : Array Slot), Dy g (wD g σ ++ X) s H locs → lv_has ls 5 [(0, .ref (ga g 6)), (1, .int x1), (2, .int x2), (3, .int x3)] → W p l e (rmD 3) s m args below meth c H locs 0 0 (QI g below args s (wD g σ' ++ X) r') (F0 m 6 ls [])) := by
  have hx := C.1
  have hb := C.2.1
  have hE := C.2.2.2.2.2.2.2.2
  intro n
  induction n with
  | zero =>
    intro σ x1 x2 x3 h
    cases h
  | succ n ih =>
    intro σ x1 x2 x3 h H locs ls hd hl
    rw [f_X1_checkExpression_6] at h
    refine lv_iload_n hx hb dX1_checkExpression_6 rfl (lv_at hl 3 rfl) ?_
    refine lv_sipush (v := 400) hx hb dX1_checkExpression_7 si_400 ?_
    refine lv_icmp_gt (tgt := 158) hx hb dX1_checkExpression_10 (by decide) (fun c1 => ?_) (fun c1 => ?_)
    · replace h := iteT c1 h
      refine lv_iconst (v := 0) hx hb dX1_checkExpression_158 ic_0 ?_
      exact rZretS (w := wD g) C hr hd h (by decide) dX1_checkExpression_159
    · replace h := iteF c1 h
      refine lv_aload_n hx hb dX1_checkExpression_13 rfl (lv_at hl 0 rfl) ?_
      refine gX1_9 C hd dX1_checkExpression_14 ?_
      refine lv_aload_n hx hb dX1_checkExpression_17 rfl (lv_at hl 0 rfl) ?_
      refine gX1_15 C hd dX1_checkExpression_18 ?_
      obtain ⟨r2, er2, h⟩ := cal_e h
      refine rCallI C hd (c_X6_kindAt hE er2) kX1_54 5 rfl rfl rfl rfl hl.1 rfl (Nat.le_of_ble_eq_true rfl) ⟨(Nat.le_of_ble_eq_true rfl), (Nat.le_of_ble_eq_true rfl)⟩ ⟨Nat.le_refl _, Nat.le_refl _⟩ dX1_checkExpression_21 (fun H locs hd => ?_)
      refine lv_istore (lv' := [(4, .int r2), (0, .ref (ga g 6)), (1, .int x1), (2, .int x2), (3, .int x3)]) hx hb dX1_checkExpression_24 hl (Nat.le_of_ble_eq_true rfl) rfl (fun ls hl => ?_)
      refine lv_iload_n hx hb dX1_checkExpression_26 rfl (lv_at hl 3 rfl) ?_
      refine lv_if_ne (tgt := 56) hx hb dX1_checkExpression_27 (by decide) (fun c3 => ?_) (fun c3 => ?_)
      · replace h := iteF c3 h
        exact w_X1_checkExpression_56 C hr ih σ x1 x2 x3 r2 h _ _ _ hd (lv_sub hl [1, 2, 3, 4, 0] rfl)
      · replace h := iteT c3 h
        refine lv_iload hx hb dX1_checkExpression_30 (lv_at hl 0 rfl) ?_
        refine lv_bipush (v := 27) hx hb dX1_checkExpression_32 bi_27 ?_
        refine lv_icmp_ne (tgt := 56) hx hb dX1_checkExpression_34 (by decide) (fun c4 => ?_) (fun c4 => ?_)
        · replace h := iteF c4 h
          exact w_X1_checkExpression_56 C hr ih σ x1 x2 x3 r2 h _ _ _ hd (lv_sub hl [1, 2, 3, 4, 0] rfl)
        · replace h := iteT c4 h
          obtain ⟨v5, ev5, h⟩ := bnd_e h
          refine lv_iinc (v := v5) (lv' := [(1, .int v5), (4, .int r2), (0, .ref (ga g 6)), (2, .int x2), (3, .int x3)]) hx hb dX1_checkExpression_37 hl (k := 2) rfl ((ii_1 _).trans ev5.symm) (Nat.le_of_ble_eq_true rfl) rfl (fun ls hl => ?_)
          refine lv_iload_n hx hb dX1_checkExpression_40 rfl (lv_at hl 0 rfl) ?_
          refine lv_bipush (v := 6) hx hb dX1_checkExpression_41 bi_6 ?_
          refine lv_icmp_le (tgt := 143) hx hb dX1_checkExpression_43 (by decide) (fun c6 => ?_) (fun c6 => ?_)
          · replace h := iteT c6 h
            exact w_X1_checkExpression_143 C hr ih σ v5 x2 x3 h _ _ _ hd (lv_sub hl [2, 0, 3, 4] rfl)
          · replace h := iteF c6 h
            refine lv_aload_n hx hb dX1_checkExpression_46 rfl (lv_at hl 2 rfl) ?_
            refine lv_iconst (v := 2) hx hb dX1_checkExpression_47 ic_2 ?_
            refine lv_aload_n hx hb dX1_checkExpression_48 rfl (lv_at hl 2 rfl) ?_
            refine gX1_15 C hd dX1_checkExpression_49 ?_
            obtain ⟨r7, t8, et8, h⟩ := cal2_e h
            refine rCallI C hd (c_X1_fail hE et8) kX1_50 6 rfl rfl rfl rfl hl.1 rfl (Nat.le_of_ble_eq_true rfl) ⟨(Nat.le_of_ble_eq_true rfl), (Nat.le_of_ble_eq_true rfl)⟩ ⟨Nat.le_refl _, Nat.le_refl _⟩ dX1_checkExpression_52 (fun H locs hd => ?_)
            obtain ⟨n9, h⟩ := chk h
            exact rZretS (w := wD g) C hr hd h n9 dX1_checkExpression_55
noncomputable def f_X1_checkExpression (F : Nat) (σ : St) : Option (Int32 × St) :=
  f_X1_checkExpression_6 F F σ 0 0 0
set_option maxRecDepth 100000 in
set_option maxHeartbeats 4000000 in
theorem c_X1_checkExpression {l : Launch} {g : Gp} {X : va_W} (hE : E0 g) {F : Nat} {r' : Int32} {σ' : St} {σ : St} (h : f_X1_checkExpression F σ = some (r', σ')) : Ci l g yX1_checkExpression cX1_checkExpression 5 (some .boolean) 3 [.ref (ga g 6)] (wD g σ ++ X) r' (wD g σ' ++ X) := by
  refine rHead hE (by decide +kernel) (Nat.le_of_ble_eq_true rfl) (fun p e s m below meth c C hr _ hd ls hl => ?_)
  have hx := C.1
  have hb := C.2.1
  have hl : lv_has ls 5 [(0, .ref (ga g 6))] := hl
  generalize ([.ref (ga g 6)] : List Value).toArray = args at C ⊢
  have C : Cx g p s m args meth c cX1_checkExpression 5 RX1 := C
  rw [f_X1_checkExpression] at h
  refine lv_iconst (v := 0) hx hb dX1_checkExpression_0 ic_0 ?_
  refine lv_istore_n (lv' := [(1, .int 0), (0, .ref (ga g 6))]) hx hb dX1_checkExpression_1 rfl hl (Nat.le_of_ble_eq_true rfl) rfl (fun ls hl => ?_)
  refine lv_iconst (v := 0) hx hb dX1_checkExpression_2 ic_0 ?_
  refine lv_istore_n (lv' := [(2, .int 0), (1, .int 0), (0, .ref (ga g 6))]) hx hb dX1_checkExpression_3 rfl hl (Nat.le_of_ble_eq_true rfl) rfl (fun ls hl => ?_)
  refine lv_iconst (v := 0) hx hb dX1_checkExpression_4 ic_0 ?_
  refine lv_istore_n (lv' := [(3, .int 0), (2, .int 0), (1, .int 0), (0, .ref (ga g 6))]) hx hb dX1_checkExpression_5 rfl hl (Nat.le_of_ble_eq_true rfl) rfl (fun ls hl => ?_)
  exact w_X1_checkExpression_6 C hr _ σ 0 0 0 h _ _ _ hd (lv_sub hl [3, 2, 1, 0] rfl)
noncomputable def f_X1_checkTell_59 (F : Nat) (σ : St) (x3 : Int32) : Option (Int32 × St) :=
  if x3 = 0 then (some (0, σ)) else (cal2 (f_X1_expect F σ 21) (fun r2 t3 => if r2 = 0 then (some (0, t3)) else (some (1, t3))))
set_option maxRecDepth 100000 in
set_option maxHeartbeats 4000000 in
theorem w_X1_checkTell_59 {F : Nat} {r' : Int32} {σ' : St}  (C : Cx g p s m args meth c cX1_checkTell 5 RX1) (hr : meth.sig.returnType = some .boolean) :
    (∀ (σ : St) (x3 : Int32), f_X1_checkTell_59 F σ x3 = some (r', σ') → ∀ (H : Heap) (locs : List Loc) (ls : Array Slot), Dy g (wD g σ ++ X) s H locs → lv_has ls 5 [(0, .ref (ga g 6)), (3, .int x3)] → W p l e (rmD 4) s m args below meth c H locs 0 0 (QI g below args s (wD g σ' ++ X) r') (F0 m 59 ls [])) := by
  have hx := C.1
  have hb := C.2.1
  have hE := C.2.2.2.2.2.2.2.2
  intro σ x3 h H locs ls hd hl
  rw [f_X1_checkTell_59] at h
  refine lv_iload_n hx hb dX1_checkTell_59 rfl (lv_at hl 1 rfl) ?_
  refine lv_if_eq (tgt := 76) hx hb dX1_checkTell_60 (by decide) (fun c1 => ?_) (fun c1 => ?_)
  · replace h := iteT c1 h
    refine lv_iconst (v := 0) hx hb dX1_checkTell_76 ic_0 ?_
    exact rZretS (w := wD g) C hr hd h (by decide) dX1_checkTell_77
  · replace h := iteF c1 h
    refine lv_aload_n hx hb dX1_checkTell_63 rfl (lv_at hl 0 rfl) ?_
    refine lv_bipush (v := 21) hx hb dX1_checkTell_64 bi_21 ?_
    obtain ⟨r2, t3, et3, h⟩ := cal2_e h
    refine rCallI C hd (c_X1_expect hE et3) kX1_63 6 rfl rfl rfl rfl hl.1 rfl (Nat.le_of_ble_eq_true rfl) ⟨(Nat.le_of_ble_eq_true rfl), (Nat.le_of_ble_eq_true rfl)⟩ ⟨Nat.le_refl _, Nat.le_refl _⟩ dX1_checkTell_66 (fun H locs hd => ?_)
    refine lv_if_eq (tgt := 76) hx hb dX1_checkTell_69 (by decide) (fun c4 => ?_) (fun c4 => ?_)
    · replace h := iteT c4 h
      refine lv_iconst (v := 0) hx hb dX1_checkTell_76 ic_0 ?_
      exact rZretS (w := wD g) C hr hd h (by decide) dX1_checkTell_77
    · replace h := iteF c4 h
      refine lv_iconst (v := 1) hx hb dX1_checkTell_72 ic_1 ?_
      refine lv_goto (tgt := 77) hx hb dX1_checkTell_73 (by decide) ?_
      exact rZretS (w := wD g) C hr hd h (by decide) dX1_checkTell_77
noncomputable def f_X1_checkTell_34 (F : Nat) : Nat → St → Int32 → Int32 → Int32 → Option (Int32 × St)
  | 0, _, _, _, _ => none
  | n + 1, σ, x2, x3, x4 => if inb x2 10 = true then if (argT x2.toNatClampNeg) ≤ x4 then (f_X1_checkTell_59 F σ x3) else (if x3 = 0 then (f_X1_checkTell_59 F σ x3) else (cal2 (f_X1_checkExpression F σ) (fun r4 t5 => bnd (x4 + 1) (fun v6 => f_X1_checkTell_34 F n t5 x2 r4 v6)))) else none
set_option maxRecDepth 100000 in
set_option maxHeartbeats 4000000 in
theorem w_X1_checkTell_34 {F : Nat} {r' : Int32} {σ' : St}  (C : Cx g p s m args meth c cX1_checkTell 5 RX1) (hr : meth.sig.returnType = some .boolean) :
    (∀ (n : Nat) (σ : St) (x2 : Int32) (x3 : Int32) (x4 : Int32), f_X1_checkTell_34 F n σ x2 x3 x4 = some (r', σ') → ∀ (H : Heap) (locs : List Loc) (ls : Array Slot), Dy g (wD g σ ++ X) s H locs → lv_has ls 5 [(0, .ref (ga g 6)), (2, .int x2), (3, .int x3), (4, .int x4)] → W p l e (rmD 4) s m args below meth c H locs 0 0 (QI g below args s (wD g σ' ++ X) r') (F0 m 34 ls [])) := by
  have hx := C.1
  have hb := C.2.1
  have hE := C.2.2.2.2.2.2.2.2
  intro n
  induction n with
  | zero =>
    intro σ x2 x3 x4 h
    cases h
  | succ n ih =>
    intro σ x2 x3 x4 h H locs ls hd hl
    rw [f_X1_checkTell_34] at h
    refine lv_iload hx hb dX1_checkTell_34 (lv_at hl 3 rfl) ?_
    obtain ⟨aA, hA1, hA2⟩ := argZ C
    refine rArgGet (host := "RestoreDesk") C hd hA1 (mT 555 (by decide +kernel)) dX1_checkTell_36 ?_
    refine lv_iload_n hx hb dX1_checkTell_39 rfl (lv_at hl 1 rfl) ?_
    obtain ⟨n1, h⟩ := chk h
    refine rArgLd C hd hA2 (inb_i n1) dX1_checkTell_40 ?_
    refine lv_icmp_ge (tgt := 59) hx hb dX1_checkTell_41 (by decide) (fun c2 => ?_) (fun c2 => ?_)
    · replace h := iteT c2 h
      exact w_X1_checkTell_59 C hr σ x3 h _ _ _ hd (lv_sub hl [0, 2] rfl)
    · replace h := iteF c2 h
      refine lv_iload_n hx hb dX1_checkTell_44 rfl (lv_at hl 2 rfl) ?_
      refine lv_if_eq (tgt := 59) hx hb dX1_checkTell_45 (by decide) (fun c3 => ?_) (fun c3 => ?_)
      · replace h := iteT c3 h
        exact w_X1_checkTell_59 C hr σ x3 h _ _ _ hd (lv_sub hl [0, 2] rfl)
      · replace h := iteF c3 h
        refine lv_aload_n hx hb dX1_checkTell_48 rfl (lv_at hl 0 rfl) ?_
        obtain ⟨r4, t5, et5, h⟩ := cal2_e h
        refine rCallI C hd (c_X1_checkExpression hE et5) kX1_74 6 rfl rfl rfl rfl hl.1 rfl (Nat.le_of_ble_eq_true rfl) ⟨(Nat.le_of_ble_eq_true rfl), (Nat.le_of_ble_eq_true rfl)⟩ ⟨Nat.le_refl _, Nat.le_refl _⟩ dX1_checkTell_49 (fun H locs hd => ?_)
        refine lv_istore_n (lv' := [(3, .int r4), (0, .ref (ga g 6)), (2, .int x2), (4, .int x4)]) hx hb dX1_checkTell_52 rfl hl (Nat.le_of_ble_eq_true rfl) rfl (fun ls hl => ?_)
        obtain ⟨v6, ev6, h⟩ := bnd_e h
        refine lv_iinc (v := v6) (lv' := [(4, .int v6), (3, .int r4), (0, .ref (ga g 6)), (2, .int x2)]) hx hb dX1_checkTell_53 hl (k := 3) rfl ((ii_1 _).trans ev6.symm) (Nat.le_of_ble_eq_true rfl) rfl (fun ls hl => ?_)
        refine lv_goto (tgt := 34) hx hb dX1_checkTell_56 (by decide) ?_
        exact ih t5 x2 r4 v6 h _ _ _ hd (lv_sub hl [2, 3, 1, 0] rfl)
noncomputable def f_X1_checkTell (F : Nat) (σ : St) (x1 : Int32) : Option (Int32 × St) :=
  bnd (x1 - 2) (fun v1 => if v1 < 0 then (cal2 (f_X1_fail F σ 1 (σ.1 20)) (fun r3 t4 => if r3 = 0 ∨ r3 = 1 then some (r3, t4) else none)) else (if v1 < 10 then (cal2 (f_X1_goOver F σ) (fun r7 t8 => f_X1_checkTell_34 F F t8 v1 r7 0)) else (cal2 (f_X1_fail F σ 1 (σ.1 20)) (fun r9 t10 => if r9 = 0 ∨ r9 = 1 then some (r9, t10) else none))))
set_option maxRecDepth 100000 in
set_option maxHeartbeats 4000000 in
theorem c_X1_checkTell {l : Launch} {g : Gp} {X : va_W} (hE : E0 g) {F : Nat} {r' : Int32} {σ' : St} {σ : St} {x1 : Int32} (h : f_X1_checkTell F σ x1 = some (r', σ')) : Ci l g yX1_checkTell cX1_checkTell 5 (some .boolean) 4 [.ref (ga g 6), .int x1] (wD g σ ++ X) r' (wD g σ' ++ X) := by
  refine rHead hE (by decide +kernel) (Nat.le_of_ble_eq_true rfl) (fun p e s m below meth c C hr _ hd ls hl => ?_)
  have hx := C.1
  have hb := C.2.1
  have hl : lv_has ls 5 [(0, .ref (ga g 6)), (1, .int x1)] := hl
  generalize ([.ref (ga g 6), .int x1] : List Value).toArray = args at C ⊢
  have C : Cx g p s m args meth c cX1_checkTell 5 RX1 := C
  rw [f_X1_checkTell] at h
  refine lv_iload_n hx hb dX1_checkTell_0 rfl (lv_at hl 1 rfl) ?_
  refine lv_iconst (v := 2) hx hb dX1_checkTell_1 ic_2 ?_
  refine lv_isub hx hb dX1_checkTell_2 ?_
  obtain ⟨v1, ev1, h⟩ := bnd_e h
  refine rTop ev1 ?_
  refine lv_istore_n (lv' := [(2, .int v1), (0, .ref (ga g 6)), (1, .int x1)]) hx hb dX1_checkTell_3 rfl hl (Nat.le_of_ble_eq_true rfl) rfl (fun ls hl => ?_)
  refine lv_iload_n hx hb dX1_checkTell_4 rfl (lv_at hl 0 rfl) ?_
  refine lv_if_lt (tgt := 16) hx hb dX1_checkTell_5 (by decide) (fun c2 => ?_) (fun c2 => ?_)
  · replace h := iteT c2 h
    refine lv_aload_n hx hb dX1_checkTell_16 rfl (lv_at hl 1 rfl) ?_
    refine lv_iconst (v := 1) hx hb dX1_checkTell_17 ic_1 ?_
    refine lv_aload_n hx hb dX1_checkTell_18 rfl (lv_at hl 1 rfl) ?_
    refine gX1_15 C hd dX1_checkTell_19 ?_
    obtain ⟨r3, t4, et4, h⟩ := cal2_e h
    refine rCallI C hd (c_X1_fail hE et4) kX1_50 6 rfl rfl rfl rfl hl.1 rfl (Nat.le_of_ble_eq_true rfl) ⟨(Nat.le_of_ble_eq_true rfl), (Nat.le_of_ble_eq_true rfl)⟩ ⟨Nat.le_refl _, Nat.le_refl _⟩ dX1_checkTell_22 (fun H locs hd => ?_)
    obtain ⟨n5, h⟩ := chk h
    exact rZretS (w := wD g) C hr hd h n5 dX1_checkTell_25
  · replace h := iteF c2 h
    refine lv_iload_n hx hb dX1_checkTell_8 rfl (lv_at hl 0 rfl) ?_
    obtain ⟨aA, hA1, hA2⟩ := argZ C
    refine rArgGet (host := "RestoreDesk") C hd hA1 (mT 555 (by decide +kernel)) dX1_checkTell_9 ?_
    refine rArgLen C hd hA2 dX1_checkTell_12 ?_
    refine lv_icmp_lt (tgt := 26) hx hb dX1_checkTell_13 (by decide) (fun c6 => ?_) (fun c6 => ?_)
    · replace h := iteT c6 h
      refine lv_aload_n hx hb dX1_checkTell_26 rfl (lv_at hl 1 rfl) ?_
      obtain ⟨r7, t8, et8, h⟩ := cal2_e h
      refine rCallI C hd (c_X1_goOver hE et8) kX1_57 6 rfl rfl rfl rfl hl.1 rfl (Nat.le_of_ble_eq_true rfl) ⟨(Nat.le_of_ble_eq_true rfl), (Nat.le_of_ble_eq_true rfl)⟩ ⟨Nat.le_refl _, Nat.le_refl _⟩ dX1_checkTell_27 (fun H locs hd => ?_)
      refine lv_istore_n (lv' := [(3, .int r7), (2, .int v1), (0, .ref (ga g 6)), (1, .int x1)]) hx hb dX1_checkTell_30 rfl hl (Nat.le_of_ble_eq_true rfl) rfl (fun ls hl => ?_)
      refine lv_iconst (v := 0) hx hb dX1_checkTell_31 ic_0 ?_
      refine lv_istore (lv' := [(4, .int 0), (3, .int r7), (2, .int v1), (0, .ref (ga g 6)), (1, .int x1)]) hx hb dX1_checkTell_32 hl (Nat.le_of_ble_eq_true rfl) rfl (fun ls hl => ?_)
      exact w_X1_checkTell_34 C hr _ t8 v1 r7 0 h _ _ _ hd (lv_sub hl [3, 2, 1, 0] rfl)
    · replace h := iteF c6 h
      refine lv_aload_n hx hb dX1_checkTell_16 rfl (lv_at hl 1 rfl) ?_
      refine lv_iconst (v := 1) hx hb dX1_checkTell_17 ic_1 ?_
      refine lv_aload_n hx hb dX1_checkTell_18 rfl (lv_at hl 1 rfl) ?_
      refine gX1_15 C hd dX1_checkTell_19 ?_
      obtain ⟨r9, t10, et10, h⟩ := cal2_e h
      refine rCallI C hd (c_X1_fail hE et10) kX1_50 6 rfl rfl rfl rfl hl.1 rfl (Nat.le_of_ble_eq_true rfl) ⟨(Nat.le_of_ble_eq_true rfl), (Nat.le_of_ble_eq_true rfl)⟩ ⟨Nat.le_refl _, Nat.le_refl _⟩ dX1_checkTell_22 (fun H locs hd => ?_)
      obtain ⟨n11, h⟩ := chk h
      exact rZretS (w := wD g) C hr hd h n11 dX1_checkTell_25
noncomputable def f_X1_checkTells_150 (F : Nat) (k_6 : St → Int32 → Int32 → Int32 → Option (Int32 × St)) (σ : St) (x1 : Int32) (x2 : Int32) (x3 : Int32) : Option (Int32 × St) :=
  bnd (x3 + 1) (fun v1 => k_6 σ x1 x2 v1)
set_option maxRecDepth 100000 in
set_option maxHeartbeats 4000000 in
theorem w_X1_checkTells_150 {F : Nat} {r' : Int32} {σ' : St}  (C : Cx g p s m args meth c cX1_checkTells 5 RX1) (hr : meth.sig.returnType = some .boolean)
    {k_6 : St → Int32 → Int32 → Int32 → Option (Int32 × St)} (hk_6 : (∀ (σ : St) (x1 : Int32) (x2 : Int32) (x3 : Int32), k_6 σ x1 x2 x3 = some (r', σ') → ∀ (H : Heap) (locs : List Loc) (ls : Array Slot), Dy g (wD g σ ++ X) s H locs → lv_has ls 5 [(0, .ref (ga g 6)), (1, .int x1), (2, .int x2), (3, .int x3)] → W p l e (rmD 5) s m args below meth c H locs 0 0 (QI g below args s (wD g σ' ++ X) r') (F0 m 6 ls []))) :
    (∀ (σ : St) (x1 : Int32) (x2 : Int32) (x3 : Int32), f_X1_checkTells_150 F k_6 σ x1 x2 x3 = some (r', σ') → ∀ (H : Heap) (locs : List Loc) (ls : Array Slot), Dy g (wD g σ ++ X) s H locs → lv_has ls 5 [(0, .ref (ga g 6)), (1, .int x1), (2, .int x2), (3, .int x3)] → W p l e (rmD 5) s m args below meth c H locs 0 0 (QI g below args s (wD g σ' ++ X) r') (F0 m 150 ls [])) := by
  have hx := C.1
  have hb := C.2.1
  have hE := C.2.2.2.2.2.2.2.2
  intro σ x1 x2 x3 h H locs ls hd hl
  rw [f_X1_checkTells_150] at h
  obtain ⟨v1, ev1, h⟩ := bnd_e h
  refine lv_iinc (v := v1) (lv' := [(3, .int v1), (0, .ref (ga g 6)), (1, .int x1), (2, .int x2)]) hx hb dX1_checkTells_150 hl (k := 3) rfl ((ii_1 _).trans ev1.symm) (Nat.le_of_ble_eq_true rfl) rfl (fun ls hl => ?_)
  refine lv_goto (tgt := 6) hx hb dX1_checkTells_153 (by decide) ?_
  exact hk_6 σ x1 x2 v1 h _ _ _ hd (lv_sub hl [1, 2, 3, 0] rfl)
noncomputable def f_X1_checkTells_143 (F : Nat) (k_6 : St → Int32 → Int32 → Int32 → Option (Int32 × St)) (σ : St) (x1 : Int32) (x3 : Int32) (x4 : Int32) : Option (Int32 × St) :=
  cal2 (f_X1_checkTell F σ x4) (fun r1 t2 => f_X1_checkTells_150 F k_6 t2 x1 r1 x3)
set_option maxRecDepth 100000 in
set_option maxHeartbeats 4000000 in
theorem w_X1_checkTells_143 {F : Nat} {r' : Int32} {σ' : St}  (C : Cx g p s m args meth c cX1_checkTells 5 RX1) (hr : meth.sig.returnType = some .boolean)
    {k_6 : St → Int32 → Int32 → Int32 → Option (Int32 × St)} (hk_6 : (∀ (σ : St) (x1 : Int32) (x2 : Int32) (x3 : Int32), k_6 σ x1 x2 x3 = some (r', σ') → ∀ (H : Heap) (locs : List Loc) (ls : Array Slot), Dy g (wD g σ ++ X) s H locs → lv_has ls 5 [(0, .ref (ga g 6)), (1, .int x1), (2, .int x2), (3, .int x3)] → W p l e (rmD 5) s m args below meth c H locs 0 0 (QI g below args s (wD g σ' ++ X) r') (F0 m 6 ls []))) :
    (∀ (σ : St) (x1 : Int32) (x3 : Int32) (x4 : Int32), f_X1_checkTells_143 F k_6 σ x1 x3 x4 = some (r', σ') → ∀ (H : Heap) (locs : List Loc) (ls : Array Slot), Dy g (wD g σ ++ X) s H locs → lv_has ls 5 [(0, .ref (ga g 6)), (1, .int x1), (3, .int x3), (4, .int x4)] → W p l e (rmD 5) s m args below meth c H locs 0 0 (QI g below args s (wD g σ' ++ X) r') (F0 m 143 ls [])) := by
  have hx := C.1
  have hb := C.2.1
  have hE := C.2.2.2.2.2.2.2.2
  intro σ x1 x3 x4 h H locs ls hd hl
  rw [f_X1_checkTells_143] at h
  refine lv_aload_n hx hb dX1_checkTells_143 rfl (lv_at hl 0 rfl) ?_
  refine lv_iload hx hb dX1_checkTells_144 (lv_at hl 3 rfl) ?_
  obtain ⟨r1, t2, et2, h⟩ := cal2_e h
  refine rCallI C hd (c_X1_checkTell hE et2) kX1_67 6 rfl rfl rfl rfl hl.1 rfl (Nat.le_of_ble_eq_true rfl) ⟨(Nat.le_of_ble_eq_true rfl), (Nat.le_of_ble_eq_true rfl)⟩ ⟨Nat.le_refl _, Nat.le_refl _⟩ dX1_checkTells_146 (fun H locs hd => ?_)
  refine lv_istore_n (lv' := [(2, .int r1), (0, .ref (ga g 6)), (1, .int x1), (3, .int x3), (4, .int x4)]) hx hb dX1_checkTells_149 rfl hl (Nat.le_of_ble_eq_true rfl) rfl (fun ls hl => ?_)
  exact w_X1_checkTells_150 C hr hk_6 t2 x1 r1 x3 h _ _ _ hd (lv_sub hl [1, 2, 0, 3] rfl)
noncomputable def f_X1_checkTells_139 (F : Nat) (k_6 : St → Int32 → Int32 → Int32 → Option (Int32 × St)) (σ : St) (x1 : Int32) (x3 : Int32) (y0 : Int32) : Option (Int32 × St) :=
  f_X1_checkTells_150 F k_6 σ x1 y0 x3
set_option maxRecDepth 100000 in
set_option maxHeartbeats 4000000 in
theorem w_X1_checkTells_139 {F : Nat} {r' : Int32} {σ' : St}  (C : Cx g p s m args meth c cX1_checkTells 5 RX1) (hr : meth.sig.returnType = some .boolean)
    {k_6 : St → Int32 → Int32 → Int32 → Option (Int32 × St)} (hk_6 : (∀ (σ : St) (x1 : Int32) (x2 : Int32) (x3 : Int32), k_6 σ x1 x2 x3 = some (r', σ') → ∀ (H : Heap) (locs : List Loc) (ls : Array Slot), Dy g (wD g σ ++ X) s H locs → lv_has ls 5 [(0, .ref (ga g 6)), (1, .int x1), (2, .int x2), (3, .int x3)] → W p l e (rmD 5) s m args below meth c H locs 0 0 (QI g below args s (wD g σ' ++ X) r') (F0 m 6 ls []))) :
    (∀ (σ : St) (x1 : Int32) (x3 : Int32) (y0 : Int32), f_X1_checkTells_139 F k_6 σ x1 x3 y0 = some (r', σ') → ∀ (H : Heap) (locs : List Loc) (ls : Array Slot), Dy g (wD g σ ++ X) s H locs → lv_has ls 5 [(0, .ref (ga g 6)), (1, .int x1), (3, .int x3)] → W p l e (rmD 5) s m args below meth c H locs 0 0 (QI g below args s (wD g σ' ++ X) r') (F0 m 139 ls [.int y0])) := by
  have hx := C.1
  have hb := C.2.1
  have hE := C.2.2.2.2.2.2.2.2
  intro σ x1 x3 y0 h H locs ls hd hl
  rw [f_X1_checkTells_139] at h
  refine lv_istore_n (lv' := [(2, .int y0), (0, .ref (ga g 6)), (1, .int x1), (3, .int x3)]) hx hb dX1_checkTells_139 rfl hl (Nat.le_of_ble_eq_true rfl) rfl (fun ls hl => ?_)
  refine lv_goto (tgt := 150) hx hb dX1_checkTells_140 (by decide) ?_
  exact w_X1_checkTells_150 C hr hk_6 σ x1 y0 x3 h _ _ _ hd (lv_sub hl [1, 2, 0, 3] rfl)
noncomputable def f_X1_checkTells_138 (F : Nat) (k_6 : St → Int32 → Int32 → Int32 → Option (Int32 × St)) (σ : St) (x1 : Int32) (x3 : Int32) : Option (Int32 × St) :=
  f_X1_checkTells_139 F k_6 σ x1 x3 0
set_option maxRecDepth 100000 in
set_option maxHeartbeats 4000000 in
theorem w_X1_checkTells_138 {F : Nat} {r' : Int32} {σ' : St}  (C : Cx g p s m args meth c cX1_checkTells 5 RX1) (hr : meth.sig.returnType = some .boolean)
    {k_6 : St → Int32 → Int32 → Int32 → Option (Int32 × St)} (hk_6 : (∀ (σ : St) (x1 : Int32) (x2 : Int32) (x3 : Int32), k_6 σ x1 x2 x3 = some (r', σ') → ∀ (H : Heap) (locs : List Loc) (ls : Array Slot), Dy g (wD g σ ++ X) s H locs → lv_has ls 5 [(0, .ref (ga g 6)), (1, .int x1), (2, .int x2), (3, .int x3)] → W p l e (rmD 5) s m args below meth c H locs 0 0 (QI g below args s (wD g σ' ++ X) r') (F0 m 6 ls []))) :
    (∀ (σ : St) (x1 : Int32) (x3 : Int32), f_X1_checkTells_138 F k_6 σ x1 x3 = some (r', σ') → ∀ (H : Heap) (locs : List Loc) (ls : Array Slot), Dy g (wD g σ ++ X) s H locs → lv_has ls 5 [(0, .ref (ga g 6)), (1, .int x1), (3, .int x3)] → W p l e (rmD 5) s m args below meth c H locs 0 0 (QI g below args s (wD g σ' ++ X) r') (F0 m 138 ls [])) := by
  have hx := C.1
  have hb := C.2.1
  have hE := C.2.2.2.2.2.2.2.2
  intro σ x1 x3 h H locs ls hd hl
  rw [f_X1_checkTells_138] at h
  refine lv_iconst (v := 0) hx hb dX1_checkTells_138 ic_0 ?_
  exact w_X1_checkTells_139 C hr hk_6 σ x1 x3 0 h _ _ _ hd (lv_sub hl [0, 1, 2] rfl)
noncomputable def f_X1_checkTells_100 (F : Nat) (k_6 : St → Int32 → Int32 → Int32 → Option (Int32 × St)) (σ : St) (x1 : Int32) (x3 : Int32) (y0 : Int32) : Option (Int32 × St) :=
  f_X1_checkTells_150 F k_6 σ x1 y0 x3
set_option maxRecDepth 100000 in
set_option maxHeartbeats 4000000 in
theorem w_X1_checkTells_100 {F : Nat} {r' : Int32} {σ' : St}  (C : Cx g p s m args meth c cX1_checkTells 5 RX1) (hr : meth.sig.returnType = some .boolean)
    {k_6 : St → Int32 → Int32 → Int32 → Option (Int32 × St)} (hk_6 : (∀ (σ : St) (x1 : Int32) (x2 : Int32) (x3 : Int32), k_6 σ x1 x2 x3 = some (r', σ') → ∀ (H : Heap) (locs : List Loc) (ls : Array Slot), Dy g (wD g σ ++ X) s H locs → lv_has ls 5 [(0, .ref (ga g 6)), (1, .int x1), (2, .int x2), (3, .int x3)] → W p l e (rmD 5) s m args below meth c H locs 0 0 (QI g below args s (wD g σ' ++ X) r') (F0 m 6 ls []))) :
    (∀ (σ : St) (x1 : Int32) (x3 : Int32) (y0 : Int32), f_X1_checkTells_100 F k_6 σ x1 x3 y0 = some (r', σ') → ∀ (H : Heap) (locs : List Loc) (ls : Array Slot), Dy g (wD g σ ++ X) s H locs → lv_has ls 5 [(0, .ref (ga g 6)), (1, .int x1), (3, .int x3)] → W p l e (rmD 5) s m args below meth c H locs 0 0 (QI g below args s (wD g σ' ++ X) r') (F0 m 100 ls [.int y0])) := by
  have hx := C.1
  have hb := C.2.1
  have hE := C.2.2.2.2.2.2.2.2
  intro σ x1 x3 y0 h H locs ls hd hl
  rw [f_X1_checkTells_100] at h
  refine lv_istore_n (lv' := [(2, .int y0), (0, .ref (ga g 6)), (1, .int x1), (3, .int x3)]) hx hb dX1_checkTells_100 rfl hl (Nat.le_of_ble_eq_true rfl) rfl (fun ls hl => ?_)
  refine lv_goto (tgt := 150) hx hb dX1_checkTells_101 (by decide) ?_
  exact w_X1_checkTells_150 C hr hk_6 σ x1 y0 x3 h _ _ _ hd (lv_sub hl [1, 2, 0, 3] rfl)
noncomputable def f_X1_checkTells_99 (F : Nat) (k_6 : St → Int32 → Int32 → Int32 → Option (Int32 × St)) (σ : St) (x1 : Int32) (x3 : Int32) : Option (Int32 × St) :=
  f_X1_checkTells_100 F k_6 σ x1 x3 0
set_option maxRecDepth 100000 in
set_option maxHeartbeats 4000000 in
theorem w_X1_checkTells_99 {F : Nat} {r' : Int32} {σ' : St}  (C : Cx g p s m args meth c cX1_checkTells 5 RX1) (hr : meth.sig.returnType = some .boolean)
    {k_6 : St → Int32 → Int32 → Int32 → Option (Int32 × St)} (hk_6 : (∀ (σ : St) (x1 : Int32) (x2 : Int32) (x3 : Int32), k_6 σ x1 x2 x3 = some (r', σ') → ∀ (H : Heap) (locs : List Loc) (ls : Array Slot), Dy g (wD g σ ++ X) s H locs → lv_has ls 5 [(0, .ref (ga g 6)), (1, .int x1), (2, .int x2), (3, .int x3)] → W p l e (rmD 5) s m args below meth c H locs 0 0 (QI g below args s (wD g σ' ++ X) r') (F0 m 6 ls []))) :
    (∀ (σ : St) (x1 : Int32) (x3 : Int32), f_X1_checkTells_99 F k_6 σ x1 x3 = some (r', σ') → ∀ (H : Heap) (locs : List Loc) (ls : Array Slot), Dy g (wD g σ ++ X) s H locs → lv_has ls 5 [(0, .ref (ga g 6)), (1, .int x1), (3, .int x3)] → W p l e (rmD 5) s m args below meth c H locs 0 0 (QI g below args s (wD g σ' ++ X) r') (F0 m 99 ls [])) := by
  have hx := C.1
  have hb := C.2.1
  have hE := C.2.2.2.2.2.2.2.2
  intro σ x1 x3 h H locs ls hd hl
  rw [f_X1_checkTells_99] at h
  refine lv_iconst (v := 0) hx hb dX1_checkTells_99 ic_0 ?_
  exact w_X1_checkTells_100 C hr hk_6 σ x1 x3 0 h _ _ _ hd (lv_sub hl [0, 1, 2] rfl)
noncomputable def f_X1_checkTells_43 (F : Nat) (k_6 : St → Int32 → Int32 → Int32 → Option (Int32 × St)) (σ : St) (x1 : Int32) (x3 : Int32) (x4 : Int32) : Option (Int32 × St) :=
  if x4 = 12 then (bnd (x1 + 1) (fun v11 => if v11 ≤ 3 then (cal2 (f_X1_goOver F σ) (fun r13 t14 => if r13 = 0 then (f_X1_checkTells_99 F k_6 t14 v11 x3) else (cal2 (f_X1_expect F t14 20) (fun r16 t17 => if r16 = 0 then (f_X1_checkTells_99 F k_6 t17 v11 x3) else (cal2 (f_X1_expect F t17 21) (fun r19 t20 => if r19 = 0 then (f_X1_checkTells_99 F k_6 t20 v11 x3) else (f_X1_checkTells_100 F k_6 t20 v11 x3 1))))))) else (cal2 (f_X1_fail F σ 2 (σ.1 20)) (fun r22 t23 => f_X1_checkTells_100 F k_6 t23 v11 x3 r22)))) else (if x4 = 13 then (if x1 ≤ 0 then (f_X1_checkTells_143 F k_6 σ x1 x3 x4) else (bnd (x1 + (-1 : Int32)) (fun v4 => cal2 (f_X1_goOver F σ) (fun r5 t6 => if r5 = 0 then (f_X1_checkTells_138 F k_6 t6 v4 x3) else (cal2 (f_X1_expect F t6 21) (fun r8 t9 => if r8 = 0 then (f_X1_checkTells_138 F k_6 t9 v4 x3) else (f_X1_checkTells_139 F k_6 t9 v4 x3 1))))))) else (f_X1_checkTells_143 F k_6 σ x1 x3 x4))
set_option maxRecDepth 100000 in
set_option maxHeartbeats 4000000 in
theorem w_X1_checkTells_43 {F : Nat} {r' : Int32} {σ' : St}  (C : Cx g p s m args meth c cX1_checkTells 5 RX1) (hr : meth.sig.returnType = some .boolean)
    {k_6 : St → Int32 → Int32 → Int32 → Option (Int32 × St)} (hk_6 : (∀ (σ : St) (x1 : Int32) (x2 : Int32) (x3 : Int32), k_6 σ x1 x2 x3 = some (r', σ') → ∀ (H : Heap) (locs : List Loc) (ls : Array Slot), Dy g (wD g σ ++ X) s H locs → lv_has ls 5 [(0, .ref (ga g 6)), (1, .int x1), (2, .int x2), (3, .int x3)] → W p l e (rmD 5) s m args below meth c H locs 0 0 (QI g below args s (wD g σ' ++ X) r') (F0 m 6 ls []))) :
    (∀ (σ : St) (x1 : Int32) (x3 : Int32) (x4 : Int32), f_X1_checkTells_43 F k_6 σ x1 x3 x4 = some (r', σ') → ∀ (H : Heap) (locs : List Loc) (ls : Array Slot), Dy g (wD g σ ++ X) s H locs → lv_has ls 5 [(0, .ref (ga g 6)), (1, .int x1), (3, .int x3), (4, .int x4)] → W p l e (rmD 5) s m args below meth c H locs 0 0 (QI g below args s (wD g σ' ++ X) r') (F0 m 43 ls [])) := by
  have hx := C.1
  have hb := C.2.1
  have hE := C.2.2.2.2.2.2.2.2
  intro σ x1 x3 x4 h H locs ls hd hl
  rw [f_X1_checkTells_43] at h
  refine lv_iload hx hb dX1_checkTells_43 (lv_at hl 3 rfl) ?_
  refine lv_bipush (v := 12) hx hb dX1_checkTells_45 bi_12 ?_
  refine lv_icmp_ne (tgt := 104) hx hb dX1_checkTells_47 (by decide) (fun c1 => ?_) (fun c1 => ?_)
  · replace h := iteF c1 h
    refine lv_iload hx hb dX1_checkTells_104 (lv_at hl 3 rfl) ?_
    refine lv_bipush (v := 13) hx hb dX1_checkTells_106 bi_13 ?_
    refine lv_icmp_ne (tgt := 143) hx hb dX1_checkTells_108 (by decide) (fun c2 => ?_) (fun c2 => ?_)
    · replace h := iteF c2 h
      exact w_X1_checkTells_143 C hr hk_6 σ x1 x3 x4 h _ _ _ hd (lv_sub hl [0, 1, 2, 3] rfl)
    · replace h := iteT c2 h
      refine lv_iload_n hx hb dX1_checkTells_111 rfl (lv_at hl 1 rfl) ?_
      refine lv_if_le (tgt := 143) hx hb dX1_checkTells_112 (by decide) (fun c3 => ?_) (fun c3 => ?_)
      · replace h := iteT c3 h
        exact w_X1_checkTells_143 C hr hk_6 σ x1 x3 x4 h _ _ _ hd (lv_sub hl [0, 1, 2, 3] rfl)
      · replace h := iteF c3 h
        obtain ⟨v4, ev4, h⟩ := bnd_e h
        refine lv_iinc (v := v4) (lv' := [(1, .int v4), (0, .ref (ga g 6)), (3, .int x3), (4, .int x4)]) hx hb dX1_checkTells_115 hl (k := 1) rfl ((ii_m1 _).trans ev4.symm) (Nat.le_of_ble_eq_true rfl) rfl (fun ls hl => ?_)
        refine lv_aload_n hx hb dX1_checkTells_118 rfl (lv_at hl 1 rfl) ?_
        obtain ⟨r5, t6, et6, h⟩ := cal2_e h
        refine rCallI C hd (c_X1_goOver hE et6) kX1_57 6 rfl rfl rfl rfl hl.1 rfl (Nat.le_of_ble_eq_true rfl) ⟨(Nat.le_of_ble_eq_true rfl), (Nat.le_of_ble_eq_true rfl)⟩ ⟨Nat.le_refl _, Nat.le_refl _⟩ dX1_checkTells_119 (fun H locs hd => ?_)
        refine lv_if_eq (tgt := 138) hx hb dX1_checkTells_122 (by decide) (fun c7 => ?_) (fun c7 => ?_)
        · replace h := iteT c7 h
          exact w_X1_checkTells_138 C hr hk_6 t6 v4 x3 h _ _ _ hd (lv_sub hl [1, 0, 2] rfl)
        · replace h := iteF c7 h
          refine lv_aload_n hx hb dX1_checkTells_125 rfl (lv_at hl 1 rfl) ?_
          refine lv_bipush (v := 21) hx hb dX1_checkTells_126 bi_21 ?_
          obtain ⟨r8, t9, et9, h⟩ := cal2_e h
          refine rCallI C hd (c_X1_expect hE et9) kX1_63 6 rfl rfl rfl rfl hl.1 rfl (Nat.le_of_ble_eq_true rfl) ⟨(Nat.le_of_ble_eq_true rfl), (Nat.le_of_ble_eq_true rfl)⟩ ⟨Nat.le_refl _, Nat.le_refl _⟩ dX1_checkTells_128 (fun H locs hd => ?_)
          refine lv_if_eq (tgt := 138) hx hb dX1_checkTells_131 (by decide) (fun c10 => ?_) (fun c10 => ?_)
          · replace h := iteT c10 h
            exact w_X1_checkTells_138 C hr hk_6 t9 v4 x3 h _ _ _ hd (lv_sub hl [1, 0, 2] rfl)
          · replace h := iteF c10 h
            refine lv_iconst (v := 1) hx hb dX1_checkTells_134 ic_1 ?_
            refine lv_goto (tgt := 139) hx hb dX1_checkTells_135 (by decide) ?_
            exact w_X1_checkTells_139 C hr hk_6 t9 v4 x3 1 h _ _ _ hd (lv_sub hl [1, 0, 2] rfl)
  · replace h := iteT c1 h
    obtain ⟨v11, ev11, h⟩ := bnd_e h
    refine lv_iinc (v := v11) (lv' := [(1, .int v11), (0, .ref (ga g 6)), (3, .int x3), (4, .int x4)]) hx hb dX1_checkTells_50 hl (k := 1) rfl ((ii_1 _).trans ev11.symm) (Nat.le_of_ble_eq_true rfl) rfl (fun ls hl => ?_)
    refine lv_iload_n hx hb dX1_checkTells_53 rfl (lv_at hl 0 rfl) ?_
    refine lv_iconst (v := 3) hx hb dX1_checkTells_54 ic_3 ?_
    refine lv_icmp_le (tgt := 70) hx hb dX1_checkTells_55 (by decide) (fun c12 => ?_) (fun c12 => ?_)
    · replace h := iteT c12 h
      refine lv_aload_n hx hb dX1_checkTells_70 rfl (lv_at hl 1 rfl) ?_
      obtain ⟨r13, t14, et14, h⟩ := cal2_e h
      refine rCallI C hd (c_X1_goOver hE et14) kX1_57 6 rfl rfl rfl rfl hl.1 rfl (Nat.le_of_ble_eq_true rfl) ⟨(Nat.le_of_ble_eq_true rfl), (Nat.le_of_ble_eq_true rfl)⟩ ⟨Nat.le_refl _, Nat.le_refl _⟩ dX1_checkTells_71 (fun H locs hd => ?_)
      refine lv_if_eq (tgt := 99) hx hb dX1_checkTells_74 (by decide) (fun c15 => ?_) (fun c15 => ?_)
      · replace h := iteT c15 h
        exact w_X1_checkTells_99 C hr hk_6 t14 v11 x3 h _ _ _ hd (lv_sub hl [1, 0, 2] rfl)
      · replace h := iteF c15 h
        refine lv_aload_n hx hb dX1_checkTells_77 rfl (lv_at hl 1 rfl) ?_
        refine lv_bipush (v := 20) hx hb dX1_checkTells_78 bi_20 ?_
        obtain ⟨r16, t17, et17, h⟩ := cal2_e h
        refine rCallI C hd (c_X1_expect hE et17) kX1_63 6 rfl rfl rfl rfl hl.1 rfl (Nat.le_of_ble_eq_true rfl) ⟨(Nat.le_of_ble_eq_true rfl), (Nat.le_of_ble_eq_true rfl)⟩ ⟨Nat.le_refl _, Nat.le_refl _⟩ dX1_checkTells_80 (fun H locs hd => ?_)
        refine lv_if_eq (tgt := 99) hx hb dX1_checkTells_83 (by decide) (fun c18 => ?_) (fun c18 => ?_)
        · replace h := iteT c18 h
          exact w_X1_checkTells_99 C hr hk_6 t17 v11 x3 h _ _ _ hd (lv_sub hl [1, 0, 2] rfl)
        · replace h := iteF c18 h
          refine lv_aload_n hx hb dX1_checkTells_86 rfl (lv_at hl 1 rfl) ?_
          refine lv_bipush (v := 21) hx hb dX1_checkTells_87 bi_21 ?_
          obtain ⟨r19, t20, et20, h⟩ := cal2_e h
          refine rCallI C hd (c_X1_expect hE et20) kX1_63 6 rfl rfl rfl rfl hl.1 rfl (Nat.le_of_ble_eq_true rfl) ⟨(Nat.le_of_ble_eq_true rfl), (Nat.le_of_ble_eq_true rfl)⟩ ⟨Nat.le_refl _, Nat.le_refl _⟩ dX1_checkTells_89 (fun H locs hd => ?_)
          refine lv_if_eq (tgt := 99) hx hb dX1_checkTells_92 (by decide) (fun c21 => ?_) (fun c21 => ?_)
          · replace h := iteT c21 h
            exact w_X1_checkTells_99 C hr hk_6 t20 v11 x3 h _ _ _ hd (lv_sub hl [1, 0, 2] rfl)
          · replace h := iteF c21 h
            refine lv_iconst (v := 1) hx hb dX1_checkTells_95 ic_1 ?_
            refine lv_goto (tgt := 100) hx hb dX1_checkTells_96 (by decide) ?_
            exact w_X1_checkTells_100 C hr hk_6 t20 v11 x3 1 h _ _ _ hd (lv_sub hl [1, 0, 2] rfl)
    · replace h := iteF c12 h
      refine lv_aload_n hx hb dX1_checkTells_58 rfl (lv_at hl 1 rfl) ?_
      refine lv_iconst (v := 2) hx hb dX1_checkTells_59 ic_2 ?_
      refine lv_aload_n hx hb dX1_checkTells_60 rfl (lv_at hl 1 rfl) ?_
      refine gX1_15 C hd dX1_checkTells_61 ?_
      obtain ⟨r22, t23, et23, h⟩ := cal2_e h
      refine rCallI C hd (c_X1_fail hE et23) kX1_50 6 rfl rfl rfl rfl hl.1 rfl (Nat.le_of_ble_eq_true rfl) ⟨(Nat.le_of_ble_eq_true rfl), (Nat.le_of_ble_eq_true rfl)⟩ ⟨Nat.le_refl _, Nat.le_refl _⟩ dX1_checkTells_64 (fun H locs hd => ?_)
      refine lv_goto (tgt := 100) hx hb dX1_checkTells_67 (by decide) ?_
      exact w_X1_checkTells_100 C hr hk_6 t23 v11 x3 r22 h _ _ _ hd (lv_sub hl [1, 0, 2] rfl)
noncomputable def f_X1_checkTells_6 (F : Nat) : Nat → St → Int32 → Int32 → Int32 → Option (Int32 × St)
  | 0, _, _, _, _ => none
  | n + 1, σ, x1, x2, x3 => if 400 < x3 then (some (0, σ)) else (if x2 = 0 then (some (0, σ)) else (cal (f_X6_kindAt F σ (σ.1 20)) (fun r3 => if r3 = 29 then (if x1 = 0 then (some (1, σ)) else (f_X1_checkTells_43 F (f_X1_checkTells_6 F n) σ x1 x3 r3)) else (f_X1_checkTells_43 F (f_X1_checkTells_6 F n) σ x1 x3 r3))))
set_option maxRecDepth 100000 in
set_option maxHeartbeats 4000000 in
theorem w_X1_checkTells_6 {F : Nat} {r' : Int32} {σ' : St}  (C : Cx g p s m args meth c cX1_checkTells 5 RX1) (hr : meth.sig.returnType = some .boolean) :
    (∀ (n : Nat) (σ : St) (x1 : Int32) (x2 : Int32) (x3 : Int32), f_X1_checkTells_6 F n σ x1 x2 x3 = some (r', σ') → ∀ (H : Heap) (locs : List Loc) (ls : Array Slot), Dy g (wD g σ ++ X) s H locs → lv_has ls 5 [(0, .ref (ga g 6)), (1, .int x1), (2, .int x2), (3, .int x3)] → W p l e (rmD 5) s m args below meth c H locs 0 0 (QI g below args s (wD g σ' ++ X) r') (F0 m 6 ls [])) := by
  have hx := C.1
  have hb := C.2.1
  have hE := C.2.2.2.2.2.2.2.2
  intro n
  induction n with
  | zero =>
    intro σ x1 x2 x3 h
    cases h
  | succ n ih =>
    intro σ x1 x2 x3 h H locs ls hd hl
    rw [f_X1_checkTells_6] at h
    refine lv_iload_n hx hb dX1_checkTells_6 rfl (lv_at hl 3 rfl) ?_
    refine lv_sipush (v := 400) hx hb dX1_checkTells_7 si_400 ?_
    refine lv_icmp_gt (tgt := 156) hx hb dX1_checkTells_10 (by decide) (fun c1 => ?_) (fun c1 => ?_)
    · replace h := iteT c1 h
      refine lv_iconst (v := 0) hx hb dX1_checkTells_156 ic_0 ?_
      exact rZretS (w := wD g) C hr hd h (by decide) dX1_checkTells_157
    · replace h := iteF c1 h
      refine lv_iload_n hx hb dX1_checkTells_13 rfl (lv_at hl 2 rfl) ?_
      refine lv_if_eq (tgt := 156) hx hb dX1_checkTells_14 (by decide) (fun c2 => ?_) (fun c2 => ?_)
      · replace h := iteT c2 h
        refine lv_iconst (v := 0) hx hb dX1_checkTells_156 ic_0 ?_
        exact rZretS (w := wD g) C hr hd h (by decide) dX1_checkTells_157
      · replace h := iteF c2 h
        refine lv_aload_n hx hb dX1_checkTells_17 rfl (lv_at hl 0 rfl) ?_
        refine gX1_9 C hd dX1_checkTells_18 ?_
        refine lv_aload_n hx hb dX1_checkTells_21 rfl (lv_at hl 0 rfl) ?_
        refine gX1_15 C hd dX1_checkTells_22 ?_
        obtain ⟨r3, er3, h⟩ := cal_e h
        refine rCallI C hd (c_X6_kindAt hE er3) kX1_54 5 rfl rfl rfl rfl hl.1 rfl (Nat.le_of_ble_eq_true rfl) ⟨(Nat.le_of_ble_eq_true rfl), (Nat.le_of_ble_eq_true rfl)⟩ ⟨Nat.le_refl _, Nat.le_refl _⟩ dX1_checkTells_25 (fun H locs hd => ?_)
        refine lv_istore (lv' := [(4, .int r3), (0, .ref (ga g 6)), (1, .int x1), (2, .int x2), (3, .int x3)]) hx hb dX1_checkTells_28 hl (Nat.le_of_ble_eq_true rfl) rfl (fun ls hl => ?_)
        refine lv_iload hx hb dX1_checkTells_30 (lv_at hl 0 rfl) ?_
        refine lv_bipush (v := 29) hx hb dX1_checkTells_32 bi_29 ?_
        refine lv_icmp_ne (tgt := 43) hx hb dX1_checkTells_34 (by decide) (fun c4 => ?_) (fun c4 => ?_)
        · replace h := iteF c4 h
          exact w_X1_checkTells_43 C hr ih σ x1 x3 r3 h _ _ _ hd (lv_sub hl [1, 2, 4, 0] rfl)
        · replace h := iteT c4 h
          refine lv_iload_n hx hb dX1_checkTells_37 rfl (lv_at hl 2 rfl) ?_
          refine lv_if_ne (tgt := 43) hx hb dX1_checkTells_38 (by decide) (fun c5 => ?_) (fun c5 => ?_)
          · replace h := iteF c5 h
            exact w_X1_checkTells_43 C hr ih σ x1 x3 r3 h _ _ _ hd (lv_sub hl [1, 2, 4, 0] rfl)
          · replace h := iteT c5 h
            refine lv_iconst (v := 1) hx hb dX1_checkTells_41 ic_1 ?_
            exact rZretS (w := wD g) C hr hd h (by decide) dX1_checkTells_42
noncomputable def f_X1_checkTells (F : Nat) (σ : St) : Option (Int32 × St) :=
  f_X1_checkTells_6 F F σ 0 1 0
set_option maxRecDepth 100000 in
set_option maxHeartbeats 4000000 in
theorem c_X1_checkTells {l : Launch} {g : Gp} {X : va_W} (hE : E0 g) {F : Nat} {r' : Int32} {σ' : St} {σ : St} (h : f_X1_checkTells F σ = some (r', σ')) : Ci l g yX1_checkTells cX1_checkTells 5 (some .boolean) 5 [.ref (ga g 6)] (wD g σ ++ X) r' (wD g σ' ++ X) := by
  refine rHead hE (by decide +kernel) (Nat.le_of_ble_eq_true rfl) (fun p e s m below meth c C hr _ hd ls hl => ?_)
  have hx := C.1
  have hb := C.2.1
  have hl : lv_has ls 5 [(0, .ref (ga g 6))] := hl
  generalize ([.ref (ga g 6)] : List Value).toArray = args at C ⊢
  have C : Cx g p s m args meth c cX1_checkTells 5 RX1 := C
  rw [f_X1_checkTells] at h
  refine lv_iconst (v := 0) hx hb dX1_checkTells_0 ic_0 ?_
  refine lv_istore_n (lv' := [(1, .int 0), (0, .ref (ga g 6))]) hx hb dX1_checkTells_1 rfl hl (Nat.le_of_ble_eq_true rfl) rfl (fun ls hl => ?_)
  refine lv_iconst (v := 1) hx hb dX1_checkTells_2 ic_1 ?_
  refine lv_istore_n (lv' := [(2, .int 1), (1, .int 0), (0, .ref (ga g 6))]) hx hb dX1_checkTells_3 rfl hl (Nat.le_of_ble_eq_true rfl) rfl (fun ls hl => ?_)
  refine lv_iconst (v := 0) hx hb dX1_checkTells_4 ic_0 ?_
  refine lv_istore_n (lv' := [(3, .int 0), (2, .int 1), (1, .int 0), (0, .ref (ga g 6))]) hx hb dX1_checkTells_5 rfl hl (Nat.le_of_ble_eq_true rfl) rfl (fun ls hl => ?_)
  exact w_X1_checkTells_6 C hr _ σ 0 1 0 h _ _ _ hd (lv_sub hl [3, 2, 1, 0] rfl)
noncomputable def f_X1_checkNumbers_101 (F : Nat) (k_2 : St → Int32 → Option St) (σ : St) (x1 : Int32) : Option St :=
  bnd (x1 + 1) (fun v1 => k_2 σ v1)
set_option maxRecDepth 100000 in
set_option maxHeartbeats 4000000 in
theorem w_X1_checkNumbers_101 {F : Nat} {σ' : St}  (C : Cx g p s m args meth c cX1_checkNumbers 5 RX1) (hr : meth.sig.returnType = none)
    {k_2 : St → Int32 → Option St} (hk_2 : (∀ (σ : St) (x1 : Int32), k_2 σ x1 = some σ' → ∀ (H : Heap) (locs : List Loc) (ls : Array Slot), Dy g (wD g σ ++ X) s H locs → lv_has ls 5 [(0, .ref (ga g 6)), (1, .int x1)] → W p l e (rmD 2) s m args below meth c H locs 0 0 (QV g below args s (wD g σ' ++ X)) (F0 m 2 ls []))) :
    (∀ (σ : St) (x1 : Int32), f_X1_checkNumbers_101 F k_2 σ x1 = some σ' → ∀ (H : Heap) (locs : List Loc) (ls : Array Slot), Dy g (wD g σ ++ X) s H locs → lv_has ls 5 [(0, .ref (ga g 6)), (1, .int x1)] → W p l e (rmD 2) s m args below meth c H locs 0 0 (QV g below args s (wD g σ' ++ X)) (F0 m 101 ls [])) := by
  have hx := C.1
  have hb := C.2.1
  have hE := C.2.2.2.2.2.2.2.2
  intro σ x1 h H locs ls hd hl
  rw [f_X1_checkNumbers_101] at h
  obtain ⟨v1, ev1, h⟩ := bnd_e h
  refine lv_iinc (v := v1) (lv' := [(1, .int v1), (0, .ref (ga g 6))]) hx hb dX1_checkNumbers_101 hl (k := 1) rfl ((ii_1 _).trans ev1.symm) (Nat.le_of_ble_eq_true rfl) rfl (fun ls hl => ?_)
  refine lv_goto (tgt := 2) hx hb dX1_checkNumbers_104 (by decide) ?_
  exact hk_2 σ v1 h _ _ _ hd (lv_sub hl [1, 0] rfl)
noncomputable def f_X1_checkNumbers_85 (F : Nat) (k_2 : St → Int32 → Option St) (σ : St) (x1 : Int32) (y0 : Int32) : Option St :=
  if y0 = 0 then (f_X1_checkNumbers_101 F k_2 σ x1) else (cal2 (f_X1_fail F σ 5 (x1 + 1)) (fun r2 t3 => f_X1_checkNumbers_101 F k_2 t3 x1))
set_option maxRecDepth 100000 in
set_option maxHeartbeats 4000000 in
theorem w_X1_checkNumbers_85 {F : Nat} {σ' : St}  (C : Cx g p s m args meth c cX1_checkNumbers 5 RX1) (hr : meth.sig.returnType = none)
    {k_2 : St → Int32 → Option St} (hk_2 : (∀ (σ : St) (x1 : Int32), k_2 σ x1 = some σ' → ∀ (H : Heap) (locs : List Loc) (ls : Array Slot), Dy g (wD g σ ++ X) s H locs → lv_has ls 5 [(0, .ref (ga g 6)), (1, .int x1)] → W p l e (rmD 2) s m args below meth c H locs 0 0 (QV g below args s (wD g σ' ++ X)) (F0 m 2 ls []))) :
    (∀ (σ : St) (x1 : Int32) (y0 : Int32), f_X1_checkNumbers_85 F k_2 σ x1 y0 = some σ' → ∀ (H : Heap) (locs : List Loc) (ls : Array Slot), Dy g (wD g σ ++ X) s H locs → lv_has ls 5 [(0, .ref (ga g 6)), (1, .int x1)] → W p l e (rmD 2) s m args below meth c H locs 0 0 (QV g below args s (wD g σ' ++ X)) (F0 m 85 ls [.int y0])) := by
  have hx := C.1
  have hb := C.2.1
  have hE := C.2.2.2.2.2.2.2.2
  intro σ x1 y0 h H locs ls hd hl
  rw [f_X1_checkNumbers_85] at h
  refine lv_istore (lv' := [(4, .int y0), (0, .ref (ga g 6)), (1, .int x1)]) hx hb dX1_checkNumbers_85 hl (Nat.le_of_ble_eq_true rfl) rfl (fun ls hl => ?_)
  refine lv_iload hx hb dX1_checkNumbers_87 (lv_at hl 0 rfl) ?_
  refine lv_if_eq (tgt := 101) hx hb dX1_checkNumbers_89 (by decide) (fun c1 => ?_) (fun c1 => ?_)
  · replace h := iteT c1 h
    exact w_X1_checkNumbers_101 C hr hk_2 σ x1 h _ _ _ hd (lv_sub hl [1, 2] rfl)
  · replace h := iteF c1 h
    refine lv_aload_n hx hb dX1_checkNumbers_92 rfl (lv_at hl 1 rfl) ?_
    refine lv_iconst (v := 5) hx hb dX1_checkNumbers_93 ic_5 ?_
    refine lv_iload_n hx hb dX1_checkNumbers_94 rfl (lv_at hl 2 rfl) ?_
    refine lv_iconst (v := 1) hx hb dX1_checkNumbers_95 ic_1 ?_
    refine lv_iadd hx hb dX1_checkNumbers_96 ?_
    obtain ⟨r2, t3, et3, h⟩ := cal2_e h
    refine rCallI C hd (c_X1_fail hE et3) kX1_50 6 rfl rfl rfl rfl hl.1 rfl (Nat.le_of_ble_eq_true rfl) ⟨(Nat.le_of_ble_eq_true rfl), (Nat.le_of_ble_eq_true rfl)⟩ ⟨Nat.le_refl _, Nat.le_refl _⟩ dX1_checkNumbers_97 (fun H locs hd => ?_)
    refine lv_pop hx hb dX1_checkNumbers_100 rfl ?_
    exact w_X1_checkNumbers_101 C hr hk_2 t3 x1 h _ _ _ hd (lv_sub hl [1, 2] rfl)
noncomputable def f_X1_checkNumbers_84 (F : Nat) (k_2 : St → Int32 → Option St) (σ : St) (x1 : Int32) : Option St :=
  f_X1_checkNumbers_85 F k_2 σ x1 0
set_option maxRecDepth 100000 in
set_option maxHeartbeats 4000000 in
theorem w_X1_checkNumbers_84 {F : Nat} {σ' : St}  (C : Cx g p s m args meth c cX1_checkNumbers 5 RX1) (hr : meth.sig.returnType = none)
    {k_2 : St → Int32 → Option St} (hk_2 : (∀ (σ : St) (x1 : Int32), k_2 σ x1 = some σ' → ∀ (H : Heap) (locs : List Loc) (ls : Array Slot), Dy g (wD g σ ++ X) s H locs → lv_has ls 5 [(0, .ref (ga g 6)), (1, .int x1)] → W p l e (rmD 2) s m args below meth c H locs 0 0 (QV g below args s (wD g σ' ++ X)) (F0 m 2 ls []))) :
    (∀ (σ : St) (x1 : Int32), f_X1_checkNumbers_84 F k_2 σ x1 = some σ' → ∀ (H : Heap) (locs : List Loc) (ls : Array Slot), Dy g (wD g σ ++ X) s H locs → lv_has ls 5 [(0, .ref (ga g 6)), (1, .int x1)] → W p l e (rmD 2) s m args below meth c H locs 0 0 (QV g below args s (wD g σ' ++ X)) (F0 m 84 ls [])) := by
  have hx := C.1
  have hb := C.2.1
  have hE := C.2.2.2.2.2.2.2.2
  intro σ x1 h H locs ls hd hl
  rw [f_X1_checkNumbers_84] at h
  refine lv_iconst (v := 0) hx hb dX1_checkNumbers_84 ic_0 ?_
  exact w_X1_checkNumbers_85 C hr hk_2 σ x1 0 h _ _ _ hd (lv_sub hl [0, 1] rfl)
noncomputable def f_X1_checkNumbers_80 (F : Nat) (k_2 : St → Int32 → Option St) (σ : St) (x1 : Int32) : Option St :=
  f_X1_checkNumbers_85 F k_2 σ x1 1
set_option maxRecDepth 100000 in
set_option maxHeartbeats 4000000 in
theorem w_X1_checkNumbers_80 {F : Nat} {σ' : St}  (C : Cx g p s m args meth c cX1_checkNumbers 5 RX1) (hr : meth.sig.returnType = none)
    {k_2 : St → Int32 → Option St} (hk_2 : (∀ (σ : St) (x1 : Int32), k_2 σ x1 = some σ' → ∀ (H : Heap) (locs : List Loc) (ls : Array Slot), Dy g (wD g σ ++ X) s H locs → lv_has ls 5 [(0, .ref (ga g 6)), (1, .int x1)] → W p l e (rmD 2) s m args below meth c H locs 0 0 (QV g below args s (wD g σ' ++ X)) (F0 m 2 ls []))) :
    (∀ (σ : St) (x1 : Int32), f_X1_checkNumbers_80 F k_2 σ x1 = some σ' → ∀ (H : Heap) (locs : List Loc) (ls : Array Slot), Dy g (wD g σ ++ X) s H locs → lv_has ls 5 [(0, .ref (ga g 6)), (1, .int x1)] → W p l e (rmD 2) s m args below meth c H locs 0 0 (QV g below args s (wD g σ' ++ X)) (F0 m 80 ls [])) := by
  have hx := C.1
  have hb := C.2.1
  have hE := C.2.2.2.2.2.2.2.2
  intro σ x1 h H locs ls hd hl
  rw [f_X1_checkNumbers_80] at h
  refine lv_iconst (v := 1) hx hb dX1_checkNumbers_80 ic_1 ?_
  refine lv_goto (tgt := 85) hx hb dX1_checkNumbers_81 (by decide) ?_
  exact w_X1_checkNumbers_85 C hr hk_2 σ x1 1 h _ _ _ hd (lv_sub hl [0, 1] rfl)
noncomputable def f_X1_checkNumbers_68 (F : Nat) (k_2 : St → Int32 → Option St) (σ : St) (x1 : Int32) (x2 : Int32) (x3 : Int32) : Option St :=
  if x2 = 12 then (if x3 ≤ 99 then (f_X1_checkNumbers_84 F k_2 σ x1) else (f_X1_checkNumbers_80 F k_2 σ x1)) else (f_X1_checkNumbers_84 F k_2 σ x1)
set_option maxRecDepth 100000 in
set_option maxHeartbeats 4000000 in
theorem w_X1_checkNumbers_68 {F : Nat} {σ' : St}  (C : Cx g p s m args meth c cX1_checkNumbers 5 RX1) (hr : meth.sig.returnType = none)
    {k_2 : St → Int32 → Option St} (hk_2 : (∀ (σ : St) (x1 : Int32), k_2 σ x1 = some σ' → ∀ (H : Heap) (locs : List Loc) (ls : Array Slot), Dy g (wD g σ ++ X) s H locs → lv_has ls 5 [(0, .ref (ga g 6)), (1, .int x1)] → W p l e (rmD 2) s m args below meth c H locs 0 0 (QV g below args s (wD g σ' ++ X)) (F0 m 2 ls []))) :
    (∀ (σ : St) (x1 : Int32) (x2 : Int32) (x3 : Int32), f_X1_checkNumbers_68 F k_2 σ x1 x2 x3 = some σ' → ∀ (H : Heap) (locs : List Loc) (ls : Array Slot), Dy g (wD g σ ++ X) s H locs → lv_has ls 5 [(0, .ref (ga g 6)), (1, .int x1), (2, .int x2), (3, .int x3)] → W p l e (rmD 2) s m args below meth c H locs 0 0 (QV g below args s (wD g σ' ++ X)) (F0 m 68 ls [])) := by
  have hx := C.1
  have hb := C.2.1
  have hE := C.2.2.2.2.2.2.2.2
  intro σ x1 x2 x3 h H locs ls hd hl
  rw [f_X1_checkNumbers_68] at h
  refine lv_iload_n hx hb dX1_checkNumbers_68 rfl (lv_at hl 2 rfl) ?_
  refine lv_bipush (v := 12) hx hb dX1_checkNumbers_69 bi_12 ?_
  refine lv_icmp_ne (tgt := 84) hx hb dX1_checkNumbers_71 (by decide) (fun c1 => ?_) (fun c1 => ?_)
  · replace h := iteF c1 h
    exact w_X1_checkNumbers_84 C hr hk_2 σ x1 h _ _ _ hd (lv_sub hl [0, 1] rfl)
  · replace h := iteT c1 h
    refine lv_iload_n hx hb dX1_checkNumbers_74 rfl (lv_at hl 3 rfl) ?_
    refine lv_bipush (v := 99) hx hb dX1_checkNumbers_75 bi_99 ?_
    refine lv_icmp_le (tgt := 84) hx hb dX1_checkNumbers_77 (by decide) (fun c2 => ?_) (fun c2 => ?_)
    · replace h := iteT c2 h
      exact w_X1_checkNumbers_84 C hr hk_2 σ x1 h _ _ _ hd (lv_sub hl [0, 1] rfl)
    · replace h := iteF c2 h
      exact w_X1_checkNumbers_80 C hr hk_2 σ x1 h _ _ _ hd (lv_sub hl [0, 1] rfl)
noncomputable def f_X1_checkNumbers_52 (F : Nat) (k_2 : St → Int32 → Option St) (σ : St) (x1 : Int32) (x2 : Int32) (x3 : Int32) : Option St :=
  if x2 = 1 then (if x3 < 2 then (f_X1_checkNumbers_80 F k_2 σ x1) else (if 8 < x3 then (f_X1_checkNumbers_80 F k_2 σ x1) else (f_X1_checkNumbers_68 F k_2 σ x1 x2 x3))) else (f_X1_checkNumbers_68 F k_2 σ x1 x2 x3)
set_option maxRecDepth 100000 in
set_option maxHeartbeats 4000000 in
theorem w_X1_checkNumbers_52 {F : Nat} {σ' : St}  (C : Cx g p s m args meth c cX1_checkNumbers 5 RX1) (hr : meth.sig.returnType = none)
    {k_2 : St → Int32 → Option St} (hk_2 : (∀ (σ : St) (x1 : Int32), k_2 σ x1 = some σ' → ∀ (H : Heap) (locs : List Loc) (ls : Array Slot), Dy g (wD g σ ++ X) s H locs → lv_has ls 5 [(0, .ref (ga g 6)), (1, .int x1)] → W p l e (rmD 2) s m args below meth c H locs 0 0 (QV g below args s (wD g σ' ++ X)) (F0 m 2 ls []))) :
    (∀ (σ : St) (x1 : Int32) (x2 : Int32) (x3 : Int32), f_X1_checkNumbers_52 F k_2 σ x1 x2 x3 = some σ' → ∀ (H : Heap) (locs : List Loc) (ls : Array Slot), Dy g (wD g σ ++ X) s H locs → lv_has ls 5 [(0, .ref (ga g 6)), (1, .int x1), (2, .int x2), (3, .int x3)] → W p l e (rmD 2) s m args below meth c H locs 0 0 (QV g below args s (wD g σ' ++ X)) (F0 m 52 ls [])) := by
  have hx := C.1
  have hb := C.2.1
  have hE := C.2.2.2.2.2.2.2.2
  intro σ x1 x2 x3 h H locs ls hd hl
  rw [f_X1_checkNumbers_52] at h
  refine lv_iload_n hx hb dX1_checkNumbers_52 rfl (lv_at hl 2 rfl) ?_
  refine lv_iconst (v := 1) hx hb dX1_checkNumbers_53 ic_1 ?_
  refine lv_icmp_ne (tgt := 68) hx hb dX1_checkNumbers_54 (by decide) (fun c1 => ?_) (fun c1 => ?_)
  · replace h := iteF c1 h
    exact w_X1_checkNumbers_68 C hr hk_2 σ x1 x2 x3 h _ _ _ hd (lv_sub hl [0, 1, 2, 3] rfl)
  · replace h := iteT c1 h
    refine lv_iload_n hx hb dX1_checkNumbers_57 rfl (lv_at hl 3 rfl) ?_
    refine lv_iconst (v := 2) hx hb dX1_checkNumbers_58 ic_2 ?_
    refine lv_icmp_lt (tgt := 80) hx hb dX1_checkNumbers_59 (by decide) (fun c2 => ?_) (fun c2 => ?_)
    · replace h := iteT c2 h
      exact w_X1_checkNumbers_80 C hr hk_2 σ x1 h _ _ _ hd (lv_sub hl [0, 1] rfl)
    · replace h := iteF c2 h
      refine lv_iload_n hx hb dX1_checkNumbers_62 rfl (lv_at hl 3 rfl) ?_
      refine lv_bipush (v := 8) hx hb dX1_checkNumbers_63 bi_8 ?_
      refine lv_icmp_gt (tgt := 80) hx hb dX1_checkNumbers_65 (by decide) (fun c3 => ?_) (fun c3 => ?_)
      · replace h := iteT c3 h
        exact w_X1_checkNumbers_80 C hr hk_2 σ x1 h _ _ _ hd (lv_sub hl [0, 1] rfl)
      · replace h := iteF c3 h
        exact w_X1_checkNumbers_68 C hr hk_2 σ x1 x2 x3 h _ _ _ hd (lv_sub hl [0, 1, 2, 3] rfl)
noncomputable def f_X1_checkNumbers_2 (F : Nat) : Nat → St → Int32 → Option St
  | 0, _, _ => none
  | n + 1, σ, x1 => if (σ.1 20) ≤ x1 then (some σ) else (if (σ.1 21) = 0 then (cal (f_X6_kindAt F σ x1) (fun r3 => cal (f_X6_numberAt F σ (x1 + 1)) (fun r4 => if r3 = 0 then (if r4 < 1 then (f_X1_checkNumbers_80 F (f_X1_checkNumbers_2 F n) σ x1) else (if 8 < r4 then (f_X1_checkNumbers_80 F (f_X1_checkNumbers_2 F n) σ x1) else (f_X1_checkNumbers_52 F (f_X1_checkNumbers_2 F n) σ x1 r3 r4))) else (f_X1_checkNumbers_52 F (f_X1_checkNumbers_2 F n) σ x1 r3 r4)))) else (some σ))
set_option maxRecDepth 100000 in
set_option maxHeartbeats 4000000 in
theorem w_X1_checkNumbers_2 {F : Nat} {σ' : St}  (C : Cx g p s m args meth c cX1_checkNumbers 5 RX1) (hr : meth.sig.returnType = none) :
    (∀ (n : Nat) (σ : St) (x1 : Int32), f_X1_checkNumbers_2 F n σ x1 = some σ' → ∀ (H : Heap) (locs : List Loc) (ls : Array Slot), Dy g (wD g σ ++ X) s H locs → lv_has ls 5 [(0, .ref (ga g 6)), (1, .int x1)] → W p l e (rmD 2) s m args below meth c H locs 0 0 (QV g below args s (wD g σ' ++ X)) (F0 m 2 ls [])) := by
  have hx := C.1
  have hb := C.2.1
  have hE := C.2.2.2.2.2.2.2.2
  intro n
  induction n with
  | zero =>
    intro σ x1 h
    cases h
  | succ n ih =>
    intro σ x1 h H locs ls hd hl
    rw [f_X1_checkNumbers_2] at h
    refine lv_iload_n hx hb dX1_checkNumbers_2 rfl (lv_at hl 1 rfl) ?_
    refine lv_aload_n hx hb dX1_checkNumbers_3 rfl (lv_at hl 0 rfl) ?_
    refine gX1_15 C hd dX1_checkNumbers_4 ?_
    refine lv_icmp_ge (tgt := 107) hx hb dX1_checkNumbers_7 (by decide) (fun c1 => ?_) (fun c1 => ?_)
    · replace h := iteT c1 h
      exact rVretS (w := wD g) C hr hd h dX1_checkNumbers_107
    · replace h := iteF c1 h
      refine lv_aload_n hx hb dX1_checkNumbers_10 rfl (lv_at hl 0 rfl) ?_
      refine gX1_19 C hd dX1_checkNumbers_11 ?_
      refine lv_if_ne (tgt := 107) hx hb dX1_checkNumbers_14 (by decide) (fun c2 => ?_) (fun c2 => ?_)
      · replace h := iteF c2 h
        exact rVretS (w := wD g) C hr hd h dX1_checkNumbers_107
      · replace h := iteT c2 h
        refine lv_aload_n hx hb dX1_checkNumbers_17 rfl (lv_at hl 0 rfl) ?_
        refine gX1_9 C hd dX1_checkNumbers_18 ?_
        refine lv_iload_n hx hb dX1_checkNumbers_21 rfl (lv_at hl 1 rfl) ?_
        obtain ⟨r3, er3, h⟩ := cal_e h
        refine rCallI C hd (c_X6_kindAt hE er3) kX1_54 5 rfl rfl rfl rfl hl.1 rfl (Nat.le_of_ble_eq_true rfl) ⟨(Nat.le_of_ble_eq_true rfl), (Nat.le_of_ble_eq_true rfl)⟩ ⟨Nat.le_refl _, Nat.le_refl _⟩ dX1_checkNumbers_22 (fun H locs hd => ?_)
        refine lv_istore_n (lv' := [(2, .int r3), (0, .ref (ga g 6)), (1, .int x1)]) hx hb dX1_checkNumbers_25 rfl hl (Nat.le_of_ble_eq_true rfl) rfl (fun ls hl => ?_)
        refine lv_aload_n hx hb dX1_checkNumbers_26 rfl (lv_at hl 1 rfl) ?_
        refine gX1_9 C hd dX1_checkNumbers_27 ?_
        refine lv_iload_n hx hb dX1_checkNumbers_30 rfl (lv_at hl 2 rfl) ?_
        refine lv_iconst (v := 1) hx hb dX1_checkNumbers_31 ic_1 ?_
        refine lv_iadd hx hb dX1_checkNumbers_32 ?_
        obtain ⟨r4, er4, h⟩ := cal_e h
        refine rCallI C hd (c_X6_numberAt hE er4) kX1_60 5 rfl rfl rfl rfl hl.1 rfl (Nat.le_of_ble_eq_true rfl) ⟨(Nat.le_of_ble_eq_true rfl), (Nat.le_of_ble_eq_true rfl)⟩ ⟨Nat.le_refl _, Nat.le_refl _⟩ dX1_checkNumbers_33 (fun H locs hd => ?_)
        refine lv_istore_n (lv' := [(3, .int r4), (2, .int r3), (0, .ref (ga g 6)), (1, .int x1)]) hx hb dX1_checkNumbers_36 rfl hl (Nat.le_of_ble_eq_true rfl) rfl (fun ls hl => ?_)
        refine lv_iload_n hx hb dX1_checkNumbers_37 rfl (lv_at hl 1 rfl) ?_
        refine lv_if_ne (tgt := 52) hx hb dX1_checkNumbers_38 (by decide) (fun c5 => ?_) (fun c5 => ?_)
        · replace h := iteF c5 h
          exact w_X1_checkNumbers_52 C hr ih σ x1 r3 r4 h _ _ _ hd (lv_sub hl [2, 3, 1, 0] rfl)
        · replace h := iteT c5 h
          refine lv_iload_n hx hb dX1_checkNumbers_41 rfl (lv_at hl 0 rfl) ?_
          refine lv_iconst (v := 1) hx hb dX1_checkNumbers_42 ic_1 ?_
          refine lv_icmp_lt (tgt := 80) hx hb dX1_checkNumbers_43 (by decide) (fun c6 => ?_) (fun c6 => ?_)
          · replace h := iteT c6 h
            exact w_X1_checkNumbers_80 C hr ih σ x1 h _ _ _ hd (lv_sub hl [2, 3] rfl)
          · replace h := iteF c6 h
            refine lv_iload_n hx hb dX1_checkNumbers_46 rfl (lv_at hl 0 rfl) ?_
            refine lv_bipush (v := 8) hx hb dX1_checkNumbers_47 bi_8 ?_
            refine lv_icmp_gt (tgt := 80) hx hb dX1_checkNumbers_49 (by decide) (fun c7 => ?_) (fun c7 => ?_)
            · replace h := iteT c7 h
              exact w_X1_checkNumbers_80 C hr ih σ x1 h _ _ _ hd (lv_sub hl [2, 3] rfl)
            · replace h := iteF c7 h
              exact w_X1_checkNumbers_52 C hr ih σ x1 r3 r4 h _ _ _ hd (lv_sub hl [2, 3, 1, 0] rfl)
noncomputable def f_X1_checkNumbers (F : Nat) (σ : St) : Option St :=
  f_X1_checkNumbers_2 F F σ 0
set_option maxRecDepth 100000 in
set_option maxHeartbeats 4000000 in
theorem c_X1_checkNumbers {l : Launch} {g : Gp} {X : va_W} (hE : E0 g) {F : Nat} {σ' : St} {σ : St} (h : f_X1_checkNumbers F σ = some σ') : Cv l g yX1_checkNumbers cX1_checkNumbers 5 2 [.ref (ga g 6)] (wD g σ ++ X) (wD g σ' ++ X) := by
  refine rHead hE (by decide +kernel) (Nat.le_of_ble_eq_true rfl) (fun p e s m below meth c C hr _ hd ls hl => ?_)
  have hx := C.1
  have hb := C.2.1
  have hl : lv_has ls 5 [(0, .ref (ga g 6))] := hl
  generalize ([.ref (ga g 6)] : List Value).toArray = args at C ⊢
  have C : Cx g p s m args meth c cX1_checkNumbers 5 RX1 := C
  rw [f_X1_checkNumbers] at h
  refine lv_iconst (v := 0) hx hb dX1_checkNumbers_0 ic_0 ?_
  refine lv_istore_n (lv' := [(1, .int 0), (0, .ref (ga g 6))]) hx hb dX1_checkNumbers_1 rfl hl (Nat.le_of_ble_eq_true rfl) rfl (fun ls hl => ?_)
  exact w_X1_checkNumbers_2 C hr _ σ 0 h _ _ _ hd (lv_sub hl [1, 0] rfl)
noncomputable def f_X1_check (F : Nat) (σ : St) : Option St :=
  bnd (ss σ 20 0) (fun t1 => bnd (ss t1 21 0) (fun t2 => bnd (ss t2 22 (-1 : Int32)) (fun t3 => bnd (ss t3 23 4) (fun t4 => bnd (ss t4 24 4) (fun t5 => cal2 (f_X1_checkHead F t5) (fun r6 t7 => if r6 = 0 then (some t7) else (cal2 (f_X1_checkTells F t7) (fun r9 t10 => if r9 = 0 then (some t10) else (cal (f_X1_checkNumbers F t10) (fun t12 => some t12))))))))))
set_option maxRecDepth 100000 in
set_option maxHeartbeats 4000000 in
theorem c_X1_check {l : Launch} {g : Gp} {X : va_W} (hE : E0 g) {F : Nat} {σ' : St} {σ : St} (h : f_X1_check F σ = some σ') : Cv l g yX1_check cX1_check 1 6 [.ref (ga g 6)] (wD g σ ++ X) (wD g σ' ++ X) := by
  refine rHead hE (by decide +kernel) (Nat.le_of_ble_eq_true rfl) (fun p e s m below meth c C hr _ hd ls hl => ?_)
  have hx := C.1
  have hb := C.2.1
  have hl : lv_has ls 1 [(0, .ref (ga g 6))] := hl
  generalize ([.ref (ga g 6)] : List Value).toArray = args at C ⊢
  have C : Cx g p s m args meth c cX1_check 1 RX1 := C
  rw [f_X1_check] at h
  refine lv_aload_n hx hb dX1_check_0 rfl (lv_at hl 0 rfl) ?_
  refine lv_iconst (v := 0) hx hb dX1_check_1 ic_0 ?_
  obtain ⟨t1, et1, h⟩ := bnd_e h
  refine pX1_15 C hd et1 dX1_check_2 (fun H locs hd => ?_)
  refine lv_aload_n hx hb dX1_check_5 rfl (lv_at hl 0 rfl) ?_
  refine lv_iconst (v := 0) hx hb dX1_check_6 ic_0 ?_
  obtain ⟨t2, et2, h⟩ := bnd_e h
  refine pX1_19 C hd et2 dX1_check_7 (fun H locs hd => ?_)
  refine lv_aload_n hx hb dX1_check_10 rfl (lv_at hl 0 rfl) ?_
  refine lv_iconst (v := (-1 : Int32)) hx hb dX1_check_11 ic_m1 ?_
  obtain ⟨t3, et3, h⟩ := bnd_e h
  refine pX1_22 C hd et3 dX1_check_12 (fun H locs hd => ?_)
  refine lv_aload_n hx hb dX1_check_15 rfl (lv_at hl 0 rfl) ?_
  refine lv_iconst (v := 4) hx hb dX1_check_16 ic_4 ?_
  obtain ⟨t4, et4, h⟩ := bnd_e h
  refine pX1_25 C hd et4 dX1_check_17 (fun H locs hd => ?_)
  refine lv_aload_n hx hb dX1_check_20 rfl (lv_at hl 0 rfl) ?_
  refine lv_iconst (v := 4) hx hb dX1_check_21 ic_4 ?_
  obtain ⟨t5, et5, h⟩ := bnd_e h
  refine pX1_28 C hd et5 dX1_check_22 (fun H locs hd => ?_)
  refine lv_aload_n hx hb dX1_check_25 rfl (lv_at hl 0 rfl) ?_
  obtain ⟨r6, t7, et7, h⟩ := cal2_e h
  refine rCallI C hd (c_X1_checkHead hE et7) kX1_34 6 rfl rfl rfl rfl hl.1 rfl (Nat.le_of_ble_eq_true rfl) ⟨(Nat.le_of_ble_eq_true rfl), (Nat.le_of_ble_eq_true rfl)⟩ ⟨Nat.le_refl _, Nat.le_refl _⟩ dX1_check_26 (fun H locs hd => ?_)
  refine lv_if_eq (tgt := 43) hx hb dX1_check_29 (by decide) (fun c8 => ?_) (fun c8 => ?_)
  · replace h := iteT c8 h
    exact rVretS (w := wD g) C hr hd h dX1_check_43
  · replace h := iteF c8 h
    refine lv_aload_n hx hb dX1_check_32 rfl (lv_at hl 0 rfl) ?_
    obtain ⟨r9, t10, et10, h⟩ := cal2_e h
    refine rCallI C hd (c_X1_checkTells hE et10) kX1_38 6 rfl rfl rfl rfl hl.1 rfl (Nat.le_of_ble_eq_true rfl) ⟨(Nat.le_of_ble_eq_true rfl), (Nat.le_of_ble_eq_true rfl)⟩ ⟨Nat.le_refl _, Nat.le_refl _⟩ dX1_check_33 (fun H locs hd => ?_)
    refine lv_if_eq (tgt := 43) hx hb dX1_check_36 (by decide) (fun c11 => ?_) (fun c11 => ?_)
    · replace h := iteT c11 h
      exact rVretS (w := wD g) C hr hd h dX1_check_43
    · replace h := iteF c11 h
      refine lv_aload_n hx hb dX1_check_39 rfl (lv_at hl 0 rfl) ?_
      obtain ⟨t12, et12, h⟩ := cal_e h
      refine rCallV C hd (c_X1_checkNumbers hE et12) kX1_41 6 rfl rfl rfl rfl hl.1 rfl (Nat.le_of_ble_eq_true rfl) ⟨(Nat.le_of_ble_eq_true rfl), (Nat.le_of_ble_eq_true rfl)⟩ ⟨Nat.le_refl _, Nat.le_refl _⟩ dX1_check_40 (fun H locs hd => ?_)
      exact rVretS (w := wD g) C hr hd h dX1_check_43
end S
