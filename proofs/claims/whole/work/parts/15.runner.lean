section S
variable {p : Program} {l : Launch} {e : Env} {s : State} {m : MethodId} {args : Array Value} {below : List Frame} {meth : Method} {c : Code} {g : Gp} {X : va_W}
noncomputable def f_X4_behindEnd_53 (F : Nat) (k_7 : St → Int32 → Int32 → Option Int32) (σ : St) (x2 : Int32) (y0 : Int32) (y1 : Int32) : Option Int32 :=
  bnd (y1 - y0) (fun v1 => if v1 = 0 then (some (x2 + 2)) else (bnd (x2 + 1) (fun v3 => k_7 σ v1 v3)))
set_option maxRecDepth 100000 in
set_option maxHeartbeats 4000000 in
theorem w_X4_behindEnd_53 {F : Nat} {r' : Int32}  (C : Cx g p s m args meth c cX4_behindEnd 4 RX4) (hr : meth.sig.returnType = some .int)
    {k_7 : St → Int32 → Int32 → Option Int32} (hk_7 : (∀ (σ : St) (x1 : Int32) (x2 : Int32), k_7 σ x1 x2 = some r' → ∀ (H : Heap) (locs : List Loc) (ls : Array Slot), Dy g (wD g σ ++ X) s H locs → lv_has ls 4 [(0, .ref (ga g 7)), (1, .int x1), (2, .int x2)] → W p l e (rmD 1) s m args below meth c H locs 0 0 (QI g below args s (wD g σ ++ X) r') (F0 m 7 ls []))) :
    (∀ (σ : St) (x2 : Int32) (y0 : Int32) (y1 : Int32), f_X4_behindEnd_53 F k_7 σ x2 y0 y1 = some r' → ∀ (H : Heap) (locs : List Loc) (ls : Array Slot), Dy g (wD g σ ++ X) s H locs → lv_has ls 4 [(0, .ref (ga g 7)), (2, .int x2)] → W p l e (rmD 1) s m args below meth c H locs 0 0 (QI g below args s (wD g σ ++ X) r') (F0 m 53 ls [.int y0, .int y1])) := by
  have hx := C.1
  have hb := C.2.1
  have hE := C.2.2.2.2.2.2.2.2
  intro σ x2 y0 y1 h H locs ls hd hl
  rw [f_X4_behindEnd_53] at h
  refine lv_isub hx hb dX4_behindEnd_53 ?_
  obtain ⟨v1, ev1, h⟩ := bnd_e h
  refine rTop ev1 ?_
  refine lv_istore_n (lv' := [(1, .int v1), (0, .ref (ga g 7)), (2, .int x2)]) hx hb dX4_behindEnd_54 rfl hl (Nat.le_of_ble_eq_true rfl) rfl (fun ls hl => ?_)
  refine lv_iload_n hx hb dX4_behindEnd_55 rfl (lv_at hl 0 rfl) ?_
  refine lv_if_ne (tgt := 63) hx hb dX4_behindEnd_56 (by decide) (fun c2 => ?_) (fun c2 => ?_)
  · replace h := iteF c2 h
    obtain ⟨v3, ev3, h⟩ := bnd_e h
    refine lv_iinc (v := v3) (lv' := [(2, .int v3), (1, .int v1), (0, .ref (ga g 7))]) hx hb dX4_behindEnd_63 hl (k := 2) rfl ((ii_1 _).trans ev3.symm) (Nat.le_of_ble_eq_true rfl) rfl (fun ls hl => ?_)
    refine lv_goto (tgt := 7) hx hb dX4_behindEnd_66 (by decide) ?_
    exact hk_7 σ v1 v3 h _ _ _ hd (lv_sub hl [2, 1, 0] rfl)
  · replace h := iteT c2 h
    refine lv_iload_n hx hb dX4_behindEnd_59 rfl (lv_at hl 2 rfl) ?_
    refine lv_iconst (v := 2) hx hb dX4_behindEnd_60 ic_2 ?_
    refine lv_iadd hx hb dX4_behindEnd_61 ?_
    exact rIretP C hr hd h dX4_behindEnd_62
noncomputable def f_X4_behindEnd_39 (F : Nat) (k_7 : St → Int32 → Int32 → Option Int32) (σ : St) (x2 : Int32) (x3 : Int32) (y0 : Int32) (y1 : Int32) : Option Int32 :=
  bnd (y1 + y0) (fun v1 => if x3 = 13 then (f_X4_behindEnd_53 F k_7 σ x2 1 v1) else (f_X4_behindEnd_53 F k_7 σ x2 0 v1))
set_option maxRecDepth 100000 in
set_option maxHeartbeats 4000000 in
theorem w_X4_behindEnd_39 {F : Nat} {r' : Int32}  (C : Cx g p s m args meth c cX4_behindEnd 4 RX4) (hr : meth.sig.returnType = some .int)
    {k_7 : St → Int32 → Int32 → Option Int32} (hk_7 : (∀ (σ : St) (x1 : Int32) (x2 : Int32), k_7 σ x1 x2 = some r' → ∀ (H : Heap) (locs : List Loc) (ls : Array Slot), Dy g (wD g σ ++ X) s H locs → lv_has ls 4 [(0, .ref (ga g 7)), (1, .int x1), (2, .int x2)] → W p l e (rmD 1) s m args below meth c H locs 0 0 (QI g below args s (wD g σ ++ X) r') (F0 m 7 ls []))) :
    (∀ (σ : St) (x2 : Int32) (x3 : Int32) (y0 : Int32) (y1 : Int32), f_X4_behindEnd_39 F k_7 σ x2 x3 y0 y1 = some r' → ∀ (H : Heap) (locs : List Loc) (ls : Array Slot), Dy g (wD g σ ++ X) s H locs → lv_has ls 4 [(0, .ref (ga g 7)), (2, .int x2), (3, .int x3)] → W p l e (rmD 1) s m args below meth c H locs 0 0 (QI g below args s (wD g σ ++ X) r') (F0 m 39 ls [.int y0, .int y1])) := by
  have hx := C.1
  have hb := C.2.1
  have hE := C.2.2.2.2.2.2.2.2
  intro σ x2 x3 y0 y1 h H locs ls hd hl
  rw [f_X4_behindEnd_39] at h
  refine lv_iadd hx hb dX4_behindEnd_39 ?_
  obtain ⟨v1, ev1, h⟩ := bnd_e h
  refine rTop ev1 ?_
  refine lv_istore_n (lv' := [(1, .int v1), (0, .ref (ga g 7)), (2, .int x2), (3, .int x3)]) hx hb dX4_behindEnd_40 rfl hl (Nat.le_of_ble_eq_true rfl) rfl (fun ls hl => ?_)
  refine lv_iload_n hx hb dX4_behindEnd_41 rfl (lv_at hl 0 rfl) ?_
  refine lv_iload_n hx hb dX4_behindEnd_42 rfl (lv_at hl 3 rfl) ?_
  refine lv_bipush (v := 13) hx hb dX4_behindEnd_43 bi_13 ?_
  refine lv_icmp_ne (tgt := 52) hx hb dX4_behindEnd_45 (by decide) (fun c2 => ?_) (fun c2 => ?_)
  · replace h := iteF c2 h
    refine lv_iconst (v := 0) hx hb dX4_behindEnd_52 ic_0 ?_
    exact w_X4_behindEnd_53 C hr hk_7 σ x2 0 v1 h _ _ _ hd (lv_sub hl [1, 2] rfl)
  · replace h := iteT c2 h
    refine lv_iconst (v := 1) hx hb dX4_behindEnd_48 ic_1 ?_
    refine lv_goto (tgt := 53) hx hb dX4_behindEnd_49 (by decide) ?_
    exact w_X4_behindEnd_53 C hr hk_7 σ x2 1 v1 h _ _ _ hd (lv_sub hl [1, 2] rfl)
noncomputable def f_X4_behindEnd_7 (F : Nat) : Nat → St → Int32 → Int32 → Option Int32
  | 0, _, _, _ => none
  | n + 1, σ, x1, x2 => if (σ.1 19) ≤ x2 then (some (σ.1 19)) else (cal (f_X6_kindAt F σ x2) (fun r2 => if r2 = 12 then (f_X4_behindEnd_39 F (f_X4_behindEnd_7 F n) σ x2 r2 1 x1) else (f_X4_behindEnd_39 F (f_X4_behindEnd_7 F n) σ x2 r2 0 x1)))
set_option maxRecDepth 100000 in
set_option maxHeartbeats 4000000 in
theorem w_X4_behindEnd_7 {F : Nat} {r' : Int32}  (C : Cx g p s m args meth c cX4_behindEnd 4 RX4) (hr : meth.sig.returnType = some .int) :
    (∀ (n : Nat) (σ : St) (x1 : Int32) (x2 : Int32), f_X4_behindEnd_7 F n σ x1 x2 = some r' → ∀ (H : Heap) (locs : List Loc) (ls : Array Slot), Dy g (wD g σ ++ X) s H locs → lv_has ls 4 [(0, .ref (ga g 7)), (1, .int x1), (2, .int x2)] → W p l e (rmD 1) s m args below meth c H locs 0 0 (QI g below args s (wD g σ ++ X) r') (F0 m 7 ls [])) := by
  have hx := C.1
  have hb := C.2.1
  have hE := C.2.2.2.2.2.2.2.2
  intro n
  induction n with
  | zero =>
    intro σ x1 x2 h
    cases h
  | succ n ih =>
    intro σ x1 x2 h H locs ls hd hl
    rw [f_X4_behindEnd_7] at h
    refine lv_iload_n hx hb dX4_behindEnd_7 rfl (lv_at hl 2 rfl) ?_
    refine lv_aload_n hx hb dX4_behindEnd_8 rfl (lv_at hl 0 rfl) ?_
    refine gX4_9 C hd dX4_behindEnd_9 ?_
    refine gX4_72 C hd dX4_behindEnd_12 ?_
    refine lv_icmp_ge (tgt := 69) hx hb dX4_behindEnd_15 (by decide) (fun c1 => ?_) (fun c1 => ?_)
    · replace h := iteT c1 h
      refine lv_aload_n hx hb dX4_behindEnd_69 rfl (lv_at hl 0 rfl) ?_
      refine gX4_9 C hd dX4_behindEnd_70 ?_
      refine gX4_72 C hd dX4_behindEnd_73 ?_
      exact rIretP C hr hd h dX4_behindEnd_76
    · replace h := iteF c1 h
      refine lv_aload_n hx hb dX4_behindEnd_18 rfl (lv_at hl 0 rfl) ?_
      refine gX4_9 C hd dX4_behindEnd_19 ?_
      refine lv_iload_n hx hb dX4_behindEnd_22 rfl (lv_at hl 2 rfl) ?_
      obtain ⟨r2, er2, h⟩ := cal_e h
      refine rCallI C hd (c_X6_kindAt hE er2) kX4_48 5 rfl rfl rfl rfl hl.1 rfl (Nat.le_of_ble_eq_true rfl) ⟨(Nat.le_of_ble_eq_true rfl), (Nat.le_of_ble_eq_true rfl)⟩ ⟨Nat.le_refl _, Nat.le_refl _⟩ dX4_behindEnd_23 (fun H locs hd => ?_)
      refine lv_istore_n (lv' := [(3, .int r2), (0, .ref (ga g 7)), (1, .int x1), (2, .int x2)]) hx hb dX4_behindEnd_26 rfl hl (Nat.le_of_ble_eq_true rfl) rfl (fun ls hl => ?_)
      refine lv_iload_n hx hb dX4_behindEnd_27 rfl (lv_at hl 2 rfl) ?_
      refine lv_iload_n hx hb dX4_behindEnd_28 rfl (lv_at hl 0 rfl) ?_
      refine lv_bipush (v := 12) hx hb dX4_behindEnd_29 bi_12 ?_
      refine lv_icmp_ne (tgt := 38) hx hb dX4_behindEnd_31 (by decide) (fun c3 => ?_) (fun c3 => ?_)
      · replace h := iteF c3 h
        refine lv_iconst (v := 0) hx hb dX4_behindEnd_38 ic_0 ?_
        exact w_X4_behindEnd_39 C hr ih σ x2 r2 0 x1 h _ _ _ hd (lv_sub hl [1, 3, 0] rfl)
      · replace h := iteT c3 h
        refine lv_iconst (v := 1) hx hb dX4_behindEnd_34 ic_1 ?_
        refine lv_goto (tgt := 39) hx hb dX4_behindEnd_35 (by decide) ?_
        exact w_X4_behindEnd_39 C hr ih σ x2 r2 1 x1 h _ _ _ hd (lv_sub hl [1, 3, 0] rfl)
noncomputable def f_X4_behindEnd (F : Nat) (σ : St) : Option Int32 :=
  bnd (σ.1 26) (fun v1 => f_X4_behindEnd_7 F F σ 0 v1)
set_option maxRecDepth 100000 in
set_option maxHeartbeats 4000000 in
theorem c_X4_behindEnd {l : Launch} {g : Gp} {X : va_W} (hE : E0 g) {F : Nat} {r' : Int32} {σ : St} (h : f_X4_behindEnd F σ = some r') : Ci l g yX4_behindEnd cX4_behindEnd 4 (some .int) 1 [.ref (ga g 7)] (wD g σ ++ X) r' (wD g σ ++ X) := by
  refine rHead hE (by decide +kernel) (Nat.le_of_ble_eq_true rfl) (fun p e s m below meth c C hr _ hd ls hl => ?_)
  have hx := C.1
  have hb := C.2.1
  have hl : lv_has ls 4 [(0, .ref (ga g 7))] := hl
  generalize ([.ref (ga g 7)] : List Value).toArray = args at C ⊢
  have C : Cx g p s m args meth c cX4_behindEnd 4 RX4 := C
  rw [f_X4_behindEnd] at h
  refine lv_iconst (v := 0) hx hb dX4_behindEnd_0 ic_0 ?_
  refine lv_istore_n (lv' := [(1, .int 0), (0, .ref (ga g 7))]) hx hb dX4_behindEnd_1 rfl hl (Nat.le_of_ble_eq_true rfl) rfl (fun ls hl => ?_)
  refine lv_aload_n hx hb dX4_behindEnd_2 rfl (lv_at hl 1 rfl) ?_
  refine gX4_15 C hd dX4_behindEnd_3 ?_
  obtain ⟨v1, ev1, h⟩ := bnd_e h
  refine rTop ev1 ?_
  refine lv_istore_n (lv' := [(2, .int v1), (1, .int 0), (0, .ref (ga g 7))]) hx hb dX4_behindEnd_6 rfl hl (Nat.le_of_ble_eq_true rfl) rfl (fun ls hl => ?_)
  exact w_X4_behindEnd_7 C hr _ σ 0 v1 h _ _ _ hd (lv_sub hl [2, 1, 0] rfl)
noncomputable def f_X4_enter (F : Nat) (σ : St) (x1 : Int32) : Option St :=
  cal (f_X6_numberAt F σ ((σ.1 26) + 1)) (fun r1 => if r1 = 0 then (cal (f_X4_behindEnd F σ) (fun r3 => bnd (ss σ 26 r3) (fun t4 => some t4))) else (if (σ.1 27) < 0 then (cal (f_X4_behindEnd F σ) (fun r6 => bnd (ss σ 26 r6) (fun t7 => some t7))) else (if (σ.1 27) < 3 then (bnd (ss σ 26 ((σ.1 26) + 3)) (fun t9 => if inb (t9.1 27) 3 = true then bnd (sr t9 29 (t9.1 27).toNatClampNeg (t9.1 26)) (fun t11 => if inb (t11.1 27) 3 = true then bnd (sr t11 30 (t11.1 27).toNatClampNeg 0) (fun t13 => if inb (t13.1 27) 3 = true then bnd (sr t13 31 (t13.1 27).toNatClampNeg x1) (fun t15 => bnd (ss t15 27 ((t15.1 27) + 1)) (fun t16 => some t16)) else none) else none) else none)) else (cal (f_X4_behindEnd F σ) (fun r17 => bnd (ss σ 26 r17) (fun t18 => some t18))))))
set_option maxRecDepth 100000 in
set_option maxHeartbeats 4000000 in
theorem c_X4_enter {l : Launch} {g : Gp} {X : va_W} (hE : E0 g) {F : Nat} {σ' : St} {σ : St} {x1 : Int32} (h : f_X4_enter F σ x1 = some σ') : Cv l g yX4_enter cX4_enter 2 2 [.ref (ga g 7), .int x1] (wD g σ ++ X) (wD g σ' ++ X) := by
  refine rHead hE (by decide +kernel) (Nat.le_of_ble_eq_true rfl) (fun p e s m below meth c C hr _ hd ls hl => ?_)
  have hx := C.1
  have hb := C.2.1
  have hl : lv_has ls 2 [(0, .ref (ga g 7)), (1, .int x1)] := hl
  generalize ([.ref (ga g 7), .int x1] : List Value).toArray = args at C ⊢
  have C : Cx g p s m args meth c cX4_enter 2 RX4 := C
  rw [f_X4_enter] at h
  refine lv_aload_n hx hb dX4_enter_0 rfl (lv_at hl 0 rfl) ?_
  refine gX4_9 C hd dX4_enter_1 ?_
  refine lv_aload_n hx hb dX4_enter_4 rfl (lv_at hl 0 rfl) ?_
  refine gX4_15 C hd dX4_enter_5 ?_
  refine lv_iconst (v := 1) hx hb dX4_enter_8 ic_1 ?_
  refine lv_iadd hx hb dX4_enter_9 ?_
  obtain ⟨r1, er1, h⟩ := cal_e h
  refine rCallI C hd (c_X6_numberAt hE er1) kX4_65 5 rfl rfl rfl rfl hl.1 rfl (Nat.le_of_ble_eq_true rfl) ⟨(Nat.le_of_ble_eq_true rfl), (Nat.le_of_ble_eq_true rfl)⟩ ⟨Nat.le_refl _, Nat.le_refl _⟩ dX4_enter_10 (fun H locs hd => ?_)
  refine lv_if_eq (tgt := 31) hx hb dX4_enter_13 (by decide) (fun c2 => ?_) (fun c2 => ?_)
  · replace h := iteT c2 h
    refine lv_aload_n hx hb dX4_enter_31 rfl (lv_at hl 0 rfl) ?_
    refine lv_aload_n hx hb dX4_enter_32 rfl (lv_at hl 0 rfl) ?_
    obtain ⟨r3, er3, h⟩ := cal_e h
    refine rCallI C hd (c_X4_behindEnd hE er3) kX4_68 7 rfl rfl rfl rfl hl.1 rfl (Nat.le_of_ble_eq_true rfl) ⟨(Nat.le_of_ble_eq_true rfl), (Nat.le_of_ble_eq_true rfl)⟩ ⟨Nat.le_refl _, Nat.le_refl _⟩ dX4_enter_33 (fun H locs hd => ?_)
    obtain ⟨t4, et4, h⟩ := bnd_e h
    refine pX4_15 C hd et4 dX4_enter_36 (fun H locs hd => ?_)
    exact rVretS (w := wD g) C hr hd h dX4_enter_39
  · replace h := iteF c2 h
    refine lv_aload_n hx hb dX4_enter_16 rfl (lv_at hl 0 rfl) ?_
    refine gX4_19 C hd dX4_enter_17 ?_
    refine lv_if_lt (tgt := 31) hx hb dX4_enter_20 (by decide) (fun c5 => ?_) (fun c5 => ?_)
    · replace h := iteT c5 h
      refine lv_aload_n hx hb dX4_enter_31 rfl (lv_at hl 0 rfl) ?_
      refine lv_aload_n hx hb dX4_enter_32 rfl (lv_at hl 0 rfl) ?_
      obtain ⟨r6, er6, h⟩ := cal_e h
      refine rCallI C hd (c_X4_behindEnd hE er6) kX4_68 7 rfl rfl rfl rfl hl.1 rfl (Nat.le_of_ble_eq_true rfl) ⟨(Nat.le_of_ble_eq_true rfl), (Nat.le_of_ble_eq_true rfl)⟩ ⟨Nat.le_refl _, Nat.le_refl _⟩ dX4_enter_33 (fun H locs hd => ?_)
      obtain ⟨t7, et7, h⟩ := bnd_e h
      refine pX4_15 C hd et7 dX4_enter_36 (fun H locs hd => ?_)
      exact rVretS (w := wD g) C hr hd h dX4_enter_39
    · replace h := iteF c5 h
      refine lv_aload_n hx hb dX4_enter_23 rfl (lv_at hl 0 rfl) ?_
      refine gX4_19 C hd dX4_enter_24 ?_
      refine lv_iconst (v := 3) hx hb dX4_enter_27 ic_3 ?_
      refine lv_icmp_lt (tgt := 40) hx hb dX4_enter_28 (by decide) (fun c8 => ?_) (fun c8 => ?_)
      · replace h := iteT c8 h
        refine lv_aload_n hx hb dX4_enter_40 rfl (lv_at hl 0 rfl) ?_
        refine lv_dup hx hb dX4_enter_41 rfl ?_
        refine gX4_15 C hd dX4_enter_42 ?_
        refine lv_iconst (v := 3) hx hb dX4_enter_45 ic_3 ?_
        refine lv_iadd hx hb dX4_enter_46 ?_
        obtain ⟨t9, et9, h⟩ := bnd_e h
        refine pX4_15 C hd et9 dX4_enter_47 (fun H locs hd => ?_)
        refine lv_aload_n hx hb dX4_enter_50 rfl (lv_at hl 0 rfl) ?_
        refine gX4_22 C hd dX4_enter_51 ?_
        refine lv_aload_n hx hb dX4_enter_54 rfl (lv_at hl 0 rfl) ?_
        refine gX4_19 C hd dX4_enter_55 ?_
        refine lv_aload_n hx hb dX4_enter_58 rfl (lv_at hl 0 rfl) ?_
        refine gX4_15 C hd dX4_enter_59 ?_
        obtain ⟨n10, h⟩ := chk h
        obtain ⟨t11, et11, h⟩ := bnd_e h
        refine st_wD_29 C hd (inb_i n10) et11 dX4_enter_62 (fun H locs hd => ?_)
        refine lv_aload_n hx hb dX4_enter_63 rfl (lv_at hl 0 rfl) ?_
        refine gX4_26 C hd dX4_enter_64 ?_
        refine lv_aload_n hx hb dX4_enter_67 rfl (lv_at hl 0 rfl) ?_
        refine gX4_19 C hd dX4_enter_68 ?_
        refine lv_iconst (v := 0) hx hb dX4_enter_71 ic_0 ?_
        obtain ⟨n12, h⟩ := chk h
        obtain ⟨t13, et13, h⟩ := bnd_e h
        refine st_wD_30 C hd (inb_i n12) et13 dX4_enter_72 (fun H locs hd => ?_)
        refine lv_aload_n hx hb dX4_enter_73 rfl (lv_at hl 0 rfl) ?_
        refine gX4_29 C hd dX4_enter_74 ?_
        refine lv_aload_n hx hb dX4_enter_77 rfl (lv_at hl 0 rfl) ?_
        refine gX4_19 C hd dX4_enter_78 ?_
        refine lv_iload_n hx hb dX4_enter_81 rfl (lv_at hl 1 rfl) ?_
        obtain ⟨n14, h⟩ := chk h
        obtain ⟨t15, et15, h⟩ := bnd_e h
        refine st_wD_31 C hd (inb_i n14) et15 dX4_enter_82 (fun H locs hd => ?_)
        refine lv_aload_n hx hb dX4_enter_83 rfl (lv_at hl 0 rfl) ?_
        refine lv_dup hx hb dX4_enter_84 rfl ?_
        refine gX4_19 C hd dX4_enter_85 ?_
        refine lv_iconst (v := 1) hx hb dX4_enter_88 ic_1 ?_
        refine lv_iadd hx hb dX4_enter_89 ?_
        obtain ⟨t16, et16, h⟩ := bnd_e h
        refine pX4_19 C hd et16 dX4_enter_90 (fun H locs hd => ?_)
        exact rVretS (w := wD g) C hr hd h dX4_enter_93
      · replace h := iteF c8 h
        refine lv_aload_n hx hb dX4_enter_31 rfl (lv_at hl 0 rfl) ?_
        refine lv_aload_n hx hb dX4_enter_32 rfl (lv_at hl 0 rfl) ?_
        obtain ⟨r17, er17, h⟩ := cal_e h
        refine rCallI C hd (c_X4_behindEnd hE er17) kX4_68 7 rfl rfl rfl rfl hl.1 rfl (Nat.le_of_ble_eq_true rfl) ⟨(Nat.le_of_ble_eq_true rfl), (Nat.le_of_ble_eq_true rfl)⟩ ⟨Nat.le_refl _, Nat.le_refl _⟩ dX4_enter_33 (fun H locs hd => ?_)
        obtain ⟨t18, et18, h⟩ := bnd_e h
        refine pX4_15 C hd et18 dX4_enter_36 (fun H locs hd => ?_)
        exact rVretS (w := wD g) C hr hd h dX4_enter_39
noncomputable def f_X4_know (F : Nat) (σ : St) (x1 : Int32) (x2 : Int32) (x3 : Int32) (x4 : Int32) : Option St :=
  bnd (sr σ 32 2 x1) (fun t1 => bnd (sr t1 32 3 x2) (fun t2 => bnd (sr t2 32 4 x3) (fun t3 => bnd (sr t3 32 5 x4) (fun t4 => some t4))))
set_option maxRecDepth 100000 in
set_option maxHeartbeats 4000000 in
theorem c_X4_know {l : Launch} {g : Gp} {X : va_W} (hE : E0 g) {F : Nat} {σ' : St} {σ : St} {x1 : Int32} {x2 : Int32} {x3 : Int32} {x4 : Int32} (h : f_X4_know F σ x1 x2 x3 x4 = some σ') : Cv l g yX4_know cX4_know 5 0 [.ref (ga g 7), .int x1, .int x2, .int x3, .int x4] (wD g σ ++ X) (wD g σ' ++ X) := by
  refine rHead hE (by decide +kernel) (Nat.le_of_ble_eq_true rfl) (fun p e s m below meth c C hr _ hd ls hl => ?_)
  have hx := C.1
  have hb := C.2.1
  have hl : lv_has ls 5 [(0, .ref (ga g 7)), (1, .int x1), (2, .int x2), (3, .int x3), (4, .int x4)] := hl
  generalize ([.ref (ga g 7), .int x1, .int x2, .int x3, .int x4] : List Value).toArray = args at C ⊢
  have C : Cx g p s m args meth c cX4_know 5 RX4 := C
  rw [f_X4_know] at h
  refine lv_aload_n hx hb dX4_know_0 rfl (lv_at hl 0 rfl) ?_
  refine gX4_32 C hd dX4_know_1 ?_
  refine lv_iconst (v := 2) hx hb dX4_know_4 ic_2 ?_
  refine lv_iload_n hx hb dX4_know_5 rfl (lv_at hl 1 rfl) ?_
  obtain ⟨t1, et1, h⟩ := bnd_e h
  refine stc_wD_32 C hd cl_2 (inb_i (by decide +kernel)) et1 dX4_know_6 (fun H locs hd => ?_)
  refine lv_aload_n hx hb dX4_know_7 rfl (lv_at hl 0 rfl) ?_
  refine gX4_32 C hd dX4_know_8 ?_
  refine lv_iconst (v := 3) hx hb dX4_know_11 ic_3 ?_
  refine lv_iload_n hx hb dX4_know_12 rfl (lv_at hl 2 rfl) ?_
  obtain ⟨t2, et2, h⟩ := bnd_e h
  refine stc_wD_32 C hd cl_3 (inb_i (by decide +kernel)) et2 dX4_know_13 (fun H locs hd => ?_)
  refine lv_aload_n hx hb dX4_know_14 rfl (lv_at hl 0 rfl) ?_
  refine gX4_32 C hd dX4_know_15 ?_
  refine lv_iconst (v := 4) hx hb dX4_know_18 ic_4 ?_
  refine lv_iload_n hx hb dX4_know_19 rfl (lv_at hl 3 rfl) ?_
  obtain ⟨t3, et3, h⟩ := bnd_e h
  refine stc_wD_32 C hd cl_4 (inb_i (by decide +kernel)) et3 dX4_know_20 (fun H locs hd => ?_)
  refine lv_aload_n hx hb dX4_know_21 rfl (lv_at hl 0 rfl) ?_
  refine gX4_32 C hd dX4_know_22 ?_
  refine lv_iconst (v := 5) hx hb dX4_know_25 ic_5 ?_
  refine lv_iload hx hb dX4_know_26 (lv_at hl 4 rfl) ?_
  obtain ⟨t4, et4, h⟩ := bnd_e h
  refine stc_wD_32 C hd cl_5 (inb_i (by decide +kernel)) et4 dX4_know_28 (fun H locs hd => ?_)
  exact rVretS (w := wD g) C hr hd h dX4_know_29
noncomputable def f_X4_turn_81 (F : Nat) (σ : St) : Option St :=
  bnd (ss σ 27 ((σ.1 27) - 1)) (fun t1 => bnd (ss t1 26 ((t1.1 26) + 2)) (fun t2 => some t2))
set_option maxRecDepth 100000 in
set_option maxHeartbeats 4000000 in
theorem w_X4_turn_81 {F : Nat} {σ' : St}  (C : Cx g p s m args meth c cX4_turn 4 RX4) (hr : meth.sig.returnType = none) :
    (∀ (σ : St), f_X4_turn_81 F σ = some σ' → ∀ (H : Heap) (locs : List Loc) (ls : Array Slot), Dy g (wD g σ ++ X) s H locs → lv_has ls 4 [(0, .ref (ga g 7))] → W p l e (rmD 1) s m args below meth c H locs 0 0 (QV g below args s (wD g σ' ++ X)) (F0 m 81 ls [])) := by
  have hx := C.1
  have hb := C.2.1
  have hE := C.2.2.2.2.2.2.2.2
  intro σ h H locs ls hd hl
  rw [f_X4_turn_81] at h
  refine lv_aload_n hx hb dX4_turn_81 rfl (lv_at hl 0 rfl) ?_
  refine lv_dup hx hb dX4_turn_82 rfl ?_
  refine gX4_19 C hd dX4_turn_83 ?_
  refine lv_iconst (v := 1) hx hb dX4_turn_86 ic_1 ?_
  refine lv_isub hx hb dX4_turn_87 ?_
  obtain ⟨t1, et1, h⟩ := bnd_e h
  refine pX4_19 C hd et1 dX4_turn_88 (fun H locs hd => ?_)
  refine lv_aload_n hx hb dX4_turn_91 rfl (lv_at hl 0 rfl) ?_
  refine lv_dup hx hb dX4_turn_92 rfl ?_
  refine gX4_15 C hd dX4_turn_93 ?_
  refine lv_iconst (v := 2) hx hb dX4_turn_96 ic_2 ?_
  refine lv_iadd hx hb dX4_turn_97 ?_
  obtain ⟨t2, et2, h⟩ := bnd_e h
  refine pX4_15 C hd et2 dX4_turn_98 (fun H locs hd => ?_)
  exact rVretS (w := wD g) C hr hd h dX4_turn_101
noncomputable def f_X4_turn_52 (F : Nat) (σ : St) (x1 : Int32) (x2 : Int32) (y0 : Int32) : Option St :=
  if y0 = 0 then (if inb x2 3 = true then if inb x2 3 = true then cal (f_X6_numberAt F σ ((σ.2.1 29 x2.toNatClampNeg) - 2)) (fun r4 => if (σ.2.1 30 x2.toNatClampNeg) < r4 then (if inb x2 3 = true then bnd (sr σ 31 x2.toNatClampNeg x1) (fun t7 => if inb x2 3 = true then bnd (ss t7 26 (t7.2.1 29 x2.toNatClampNeg)) (fun t9 => some t9) else none) else none) else (f_X4_turn_81 F σ)) else none else none) else (f_X4_turn_81 F σ)
set_option maxRecDepth 100000 in
set_option maxHeartbeats 4000000 in
theorem w_X4_turn_52 {F : Nat} {σ' : St}  (C : Cx g p s m args meth c cX4_turn 4 RX4) (hr : meth.sig.returnType = none) :
    (∀ (σ : St) (x1 : Int32) (x2 : Int32) (y0 : Int32), f_X4_turn_52 F σ x1 x2 y0 = some σ' → ∀ (H : Heap) (locs : List Loc) (ls : Array Slot), Dy g (wD g σ ++ X) s H locs → lv_has ls 4 [(0, .ref (ga g 7)), (1, .int x1), (2, .int x2)] → W p l e (rmD 1) s m args below meth c H locs 0 0 (QV g below args s (wD g σ' ++ X)) (F0 m 52 ls [.int y0])) := by
  have hx := C.1
  have hb := C.2.1
  have hE := C.2.2.2.2.2.2.2.2
  intro σ x1 x2 y0 h H locs ls hd hl
  rw [f_X4_turn_52] at h
  refine lv_istore_n (lv' := [(3, .int y0), (0, .ref (ga g 7)), (1, .int x1), (2, .int x2)]) hx hb dX4_turn_52 rfl hl (Nat.le_of_ble_eq_true rfl) rfl (fun ls hl => ?_)
  refine lv_iload_n hx hb dX4_turn_53 rfl (lv_at hl 0 rfl) ?_
  refine lv_if_ne (tgt := 81) hx hb dX4_turn_54 (by decide) (fun c1 => ?_) (fun c1 => ?_)
  · replace h := iteF c1 h
    exact w_X4_turn_81 C hr σ h _ _ _ hd (lv_sub hl [1] rfl)
  · replace h := iteT c1 h
    refine lv_aload_n hx hb dX4_turn_57 rfl (lv_at hl 1 rfl) ?_
    refine gX4_26 C hd dX4_turn_58 ?_
    refine lv_iload_n hx hb dX4_turn_61 rfl (lv_at hl 3 rfl) ?_
    obtain ⟨n2, h⟩ := chk h
    refine ld_wD_30 C hd (inb_i n2) dX4_turn_62 ?_
    refine lv_aload_n hx hb dX4_turn_63 rfl (lv_at hl 1 rfl) ?_
    refine gX4_9 C hd dX4_turn_64 ?_
    refine lv_aload_n hx hb dX4_turn_67 rfl (lv_at hl 1 rfl) ?_
    refine gX4_22 C hd dX4_turn_68 ?_
    refine lv_iload_n hx hb dX4_turn_71 rfl (lv_at hl 3 rfl) ?_
    obtain ⟨n3, h⟩ := chk h
    refine ld_wD_29 C hd (inb_i n3) dX4_turn_72 ?_
    refine lv_iconst (v := 2) hx hb dX4_turn_73 ic_2 ?_
    refine lv_isub hx hb dX4_turn_74 ?_
    obtain ⟨r4, er4, h⟩ := cal_e h
    refine rCallI C hd (c_X6_numberAt hE er4) kX4_65 5 rfl rfl rfl rfl hl.1 rfl (Nat.le_of_ble_eq_true rfl) ⟨(Nat.le_of_ble_eq_true rfl), (Nat.le_of_ble_eq_true rfl)⟩ ⟨Nat.le_refl _, Nat.le_refl _⟩ dX4_turn_75 (fun H locs hd => ?_)
    refine lv_icmp_lt (tgt := 102) hx hb dX4_turn_78 (by decide) (fun c5 => ?_) (fun c5 => ?_)
    · replace h := iteT c5 h
      refine lv_aload_n hx hb dX4_turn_102 rfl (lv_at hl 1 rfl) ?_
      refine gX4_29 C hd dX4_turn_103 ?_
      refine lv_iload_n hx hb dX4_turn_106 rfl (lv_at hl 3 rfl) ?_
      refine lv_iload_n hx hb dX4_turn_107 rfl (lv_at hl 2 rfl) ?_
      obtain ⟨n6, h⟩ := chk h
      obtain ⟨t7, et7, h⟩ := bnd_e h
      refine st_wD_31 C hd (inb_i n6) et7 dX4_turn_108 (fun H locs hd => ?_)
      refine lv_aload_n hx hb dX4_turn_109 rfl (lv_at hl 1 rfl) ?_
      refine lv_aload_n hx hb dX4_turn_110 rfl (lv_at hl 1 rfl) ?_
      refine gX4_22 C hd dX4_turn_111 ?_
      refine lv_iload_n hx hb dX4_turn_114 rfl (lv_at hl 3 rfl) ?_
      obtain ⟨n8, h⟩ := chk h
      refine ld_wD_29 C hd (inb_i n8) dX4_turn_115 ?_
      obtain ⟨t9, et9, h⟩ := bnd_e h
      refine pX4_15 C hd et9 dX4_turn_116 (fun H locs hd => ?_)
      exact rVretS (w := wD g) C hr hd h dX4_turn_119
    · replace h := iteF c5 h
      exact w_X4_turn_81 C hr σ h _ _ _ hd (lv_sub hl [1] rfl)
noncomputable def f_X4_turn (F : Nat) (σ : St) (x1 : Int32) : Option St :=
  bnd ((σ.1 27) - 1) (fun v1 => if v1 < 0 then (bnd (ss σ 26 ((σ.1 26) + 2)) (fun t3 => some t3)) else (if v1 < 3 then (if inb v1 3 = true then if inb v1 3 = true then bnd (sr σ 30 v1.toNatClampNeg ((σ.2.1 30 v1.toNatClampNeg) + 1)) (fun t7 => if inb v1 3 = true then if (t7.2.1 31 v1.toNatClampNeg) = x1 then (f_X4_turn_52 F t7 x1 v1 1) else (f_X4_turn_52 F t7 x1 v1 0) else none) else none else none) else (bnd (ss σ 26 ((σ.1 26) + 2)) (fun t10 => some t10))))
set_option maxRecDepth 100000 in
set_option maxHeartbeats 4000000 in
theorem c_X4_turn {l : Launch} {g : Gp} {X : va_W} (hE : E0 g) {F : Nat} {σ' : St} {σ : St} {x1 : Int32} (h : f_X4_turn F σ x1 = some σ') : Cv l g yX4_turn cX4_turn 4 1 [.ref (ga g 7), .int x1] (wD g σ ++ X) (wD g σ' ++ X) := by
  refine rHead hE (by decide +kernel) (Nat.le_of_ble_eq_true rfl) (fun p e s m below meth c C hr _ hd ls hl => ?_)
  have hx := C.1
  have hb := C.2.1
  have hl : lv_has ls 4 [(0, .ref (ga g 7)), (1, .int x1)] := hl
  generalize ([.ref (ga g 7), .int x1] : List Value).toArray = args at C ⊢
  have C : Cx g p s m args meth c cX4_turn 4 RX4 := C
  rw [f_X4_turn] at h
  refine lv_aload_n hx hb dX4_turn_0 rfl (lv_at hl 0 rfl) ?_
  refine gX4_19 C hd dX4_turn_1 ?_
  refine lv_iconst (v := 1) hx hb dX4_turn_4 ic_1 ?_
  refine lv_isub hx hb dX4_turn_5 ?_
  obtain ⟨v1, ev1, h⟩ := bnd_e h
  refine rTop ev1 ?_
  refine lv_istore_n (lv' := [(2, .int v1), (0, .ref (ga g 7)), (1, .int x1)]) hx hb dX4_turn_6 rfl hl (Nat.le_of_ble_eq_true rfl) rfl (fun ls hl => ?_)
  refine lv_iload_n hx hb dX4_turn_7 rfl (lv_at hl 0 rfl) ?_
  refine lv_if_lt (tgt := 16) hx hb dX4_turn_8 (by decide) (fun c2 => ?_) (fun c2 => ?_)
  · replace h := iteT c2 h
    refine lv_aload_n hx hb dX4_turn_16 rfl (lv_at hl 1 rfl) ?_
    refine lv_dup hx hb dX4_turn_17 rfl ?_
    refine gX4_15 C hd dX4_turn_18 ?_
    refine lv_iconst (v := 2) hx hb dX4_turn_21 ic_2 ?_
    refine lv_iadd hx hb dX4_turn_22 ?_
    obtain ⟨t3, et3, h⟩ := bnd_e h
    refine pX4_15 C hd et3 dX4_turn_23 (fun H locs hd => ?_)
    exact rVretS (w := wD g) C hr hd h dX4_turn_26
  · replace h := iteF c2 h
    refine lv_iload_n hx hb dX4_turn_11 rfl (lv_at hl 0 rfl) ?_
    refine lv_iconst (v := 3) hx hb dX4_turn_12 ic_3 ?_
    refine lv_icmp_lt (tgt := 27) hx hb dX4_turn_13 (by decide) (fun c4 => ?_) (fun c4 => ?_)
    · replace h := iteT c4 h
      refine lv_aload_n hx hb dX4_turn_27 rfl (lv_at hl 1 rfl) ?_
      refine gX4_26 C hd dX4_turn_28 ?_
      refine lv_iload_n hx hb dX4_turn_31 rfl (lv_at hl 0 rfl) ?_
      refine lv_dup2_11 hx hb dX4_turn_32 rfl rfl ?_
      obtain ⟨n5, h⟩ := chk h
      refine ld_wD_30 C hd (inb_i n5) dX4_turn_33 ?_
      refine lv_iconst (v := 1) hx hb dX4_turn_34 ic_1 ?_
      refine lv_iadd hx hb dX4_turn_35 ?_
      obtain ⟨n6, h⟩ := chk h
      obtain ⟨t7, et7, h⟩ := bnd_e h
      refine st_wD_30 C hd (inb_i n6) et7 dX4_turn_36 (fun H locs hd => ?_)
      refine lv_aload_n hx hb dX4_turn_37 rfl (lv_at hl 1 rfl) ?_
      refine gX4_29 C hd dX4_turn_38 ?_
      refine lv_iload_n hx hb dX4_turn_41 rfl (lv_at hl 0 rfl) ?_
      obtain ⟨n8, h⟩ := chk h
      refine ld_wD_31 C hd (inb_i n8) dX4_turn_42 ?_
      refine lv_iload_n hx hb dX4_turn_43 rfl (lv_at hl 2 rfl) ?_
      refine lv_icmp_ne (tgt := 51) hx hb dX4_turn_44 (by decide) (fun c9 => ?_) (fun c9 => ?_)
      · replace h := iteF c9 h
        refine lv_iconst (v := 0) hx hb dX4_turn_51 ic_0 ?_
        exact w_X4_turn_52 C hr t7 x1 v1 0 h _ _ _ hd (lv_sub hl [1, 2, 0] rfl)
      · replace h := iteT c9 h
        refine lv_iconst (v := 1) hx hb dX4_turn_47 ic_1 ?_
        refine lv_goto (tgt := 52) hx hb dX4_turn_48 (by decide) ?_
        exact w_X4_turn_52 C hr t7 x1 v1 1 h _ _ _ hd (lv_sub hl [1, 2, 0] rfl)
    · replace h := iteF c4 h
      refine lv_aload_n hx hb dX4_turn_16 rfl (lv_at hl 1 rfl) ?_
      refine lv_dup hx hb dX4_turn_17 rfl ?_
      refine gX4_15 C hd dX4_turn_18 ?_
      refine lv_iconst (v := 2) hx hb dX4_turn_21 ic_2 ?_
      refine lv_iadd hx hb dX4_turn_22 ?_
      obtain ⟨t10, et10, h⟩ := bnd_e h
      refine pX4_15 C hd et10 dX4_turn_23 (fun H locs hd => ?_)
      exact rVretS (w := wD g) C hr hd h dX4_turn_26
noncomputable def f_X4_unit_54 (F : Nat) (Sm : St → Int32 → Option (Int32 × St)) (σ : St) (x2 : Int32) : Option (Int32 × St) :=
  cal (f_X6_numberAt F σ (σ.1 26)) (fun r1 => bnd (ss σ 26 ((σ.1 26) + 1)) (fun t2 => bnd (x2 - 14) (fun v3 => if v3 < 0 then (some (r1, t2)) else (if 6 ≤ v3 then (some (r1, t2)) else (if inb v3 6 = true then some ((t2.2.1 32 v3.toNatClampNeg), t2) else none)))))
set_option maxRecDepth 100000 in
set_option maxHeartbeats 4000000 in
theorem w_X4_unit_54 {F : Nat} {r' : Int32} {σ' : St}  (C : Cx g p s m args meth c cX4_unit 5 RX4) (hr : meth.sig.returnType = some .int) {Sm : St → Int32 → Option (Int32 × St)} {D : Nat} (hS : ∀ (σ : St) (x : Int32) (r : Int32) (σ1 : St), Sm σ x = some (r, σ1) → Ci l g yX4_sum cX4_sum 6 (some .int) D [.ref (ga g 7), .int x] (wD g σ ++ X) r (wD g σ1 ++ X)) :
    (∀ (σ : St) (x2 : Int32), f_X4_unit_54 F Sm σ x2 = some (r', σ') → ∀ (H : Heap) (locs : List Loc) (ls : Array Slot), Dy g (wD g σ ++ X) s H locs → lv_has ls 5 [(0, .ref (ga g 7)), (2, .int x2)] → W p l e (rmD (D + 1)) s m args below meth c H locs 0 0 (QI g below args s (wD g σ' ++ X) r') (F0 m 54 ls [])) := by
  have hx := C.1
  have hb := C.2.1
  have hE := C.2.2.2.2.2.2.2.2
  intro σ x2 h H locs ls hd hl
  rw [f_X4_unit_54] at h
  refine lv_aload_n hx hb dX4_unit_54 rfl (lv_at hl 0 rfl) ?_
  refine gX4_9 C hd dX4_unit_55 ?_
  refine lv_aload_n hx hb dX4_unit_58 rfl (lv_at hl 0 rfl) ?_
  refine gX4_15 C hd dX4_unit_59 ?_
  obtain ⟨r1, er1, h⟩ := cal_e h
  refine rCallI C hd (c_X6_numberAt hE er1) kX4_65 5 rfl rfl rfl rfl hl.1 rfl (Nat.le_of_ble_eq_true rfl) (rmle (by omega) (by decide)) ⟨Nat.le_refl _, Nat.le_refl _⟩ dX4_unit_62 (fun H locs hd => ?_)
  refine lv_istore_n (lv' := [(3, .int r1), (0, .ref (ga g 7)), (2, .int x2)]) hx hb dX4_unit_65 rfl hl (Nat.le_of_ble_eq_true rfl) rfl (fun ls hl => ?_)
  refine lv_aload_n hx hb dX4_unit_66 rfl (lv_at hl 1 rfl) ?_
  refine lv_dup hx hb dX4_unit_67 rfl ?_
  refine gX4_15 C hd dX4_unit_68 ?_
  refine lv_iconst (v := 1) hx hb dX4_unit_71 ic_1 ?_
  refine lv_iadd hx hb dX4_unit_72 ?_
  obtain ⟨t2, et2, h⟩ := bnd_e h
  refine pX4_15 C hd et2 dX4_unit_73 (fun H locs hd => ?_)
  refine lv_iload_n hx hb dX4_unit_76 rfl (lv_at hl 2 rfl) ?_
  refine lv_bipush (v := 14) hx hb dX4_unit_77 bi_14 ?_
  refine lv_isub hx hb dX4_unit_79 ?_
  obtain ⟨v3, ev3, h⟩ := bnd_e h
  refine rTop ev3 ?_
  refine lv_istore (lv' := [(4, .int v3), (3, .int r1), (0, .ref (ga g 7)), (2, .int x2)]) hx hb dX4_unit_80 hl (Nat.le_of_ble_eq_true rfl) rfl (fun ls hl => ?_)
  refine lv_iload hx hb dX4_unit_82 (lv_at hl 0 rfl) ?_
  refine lv_if_lt (tgt := 107) hx hb dX4_unit_84 (by decide) (fun c4 => ?_) (fun c4 => ?_)
  · replace h := iteT c4 h
    refine lv_iload_n hx hb dX4_unit_107 rfl (lv_at hl 1 rfl) ?_
    exact rIretS (w := wD g) C hr hd h dX4_unit_108
  · replace h := iteF c4 h
    refine lv_iload hx hb dX4_unit_87 (lv_at hl 0 rfl) ?_
    refine lv_aload_n hx hb dX4_unit_89 rfl (lv_at hl 2 rfl) ?_
    refine gX4_32 C hd dX4_unit_90 ?_
    refine len_wD_32 C hd dX4_unit_93 ?_
    refine lv_icmp_ge (tgt := 107) hx hb dX4_unit_94 (by decide) (fun c5 => ?_) (fun c5 => ?_)
    · replace h := iteT c5 h
      refine lv_iload_n hx hb dX4_unit_107 rfl (lv_at hl 1 rfl) ?_
      exact rIretS (w := wD g) C hr hd h dX4_unit_108
    · replace h := iteF c5 h
      refine lv_aload_n hx hb dX4_unit_97 rfl (lv_at hl 2 rfl) ?_
      refine gX4_32 C hd dX4_unit_98 ?_
      refine lv_iload hx hb dX4_unit_101 (lv_at hl 0 rfl) ?_
      obtain ⟨n6, h⟩ := chk h
      refine ld_wD_32 C hd (inb_i n6) dX4_unit_103 ?_
      refine lv_goto (tgt := 108) hx hb dX4_unit_104 (by decide) ?_
      exact rIretS (w := wD g) C hr hd h dX4_unit_108
noncomputable def f_X4_unit (F : Nat) (Sm : St → Int32 → Option (Int32 × St)) (σ : St) (x1 : Int32) : Option (Int32 × St) :=
  cal (f_X6_kindAt F σ (σ.1 26)) (fun r1 => if r1 = 27 then (if 6 ≤ x1 then (f_X4_unit_54 F Sm σ r1) else (bnd (ss σ 26 ((σ.1 26) + 1)) (fun t4 => cal2 (Sm t4 (x1 + 1)) (fun r5 t6 => bnd (ss t6 26 ((t6.1 26) + 1)) (fun t7 => some (r5, t7)))))) else (f_X4_unit_54 F Sm σ r1))
set_option maxRecDepth 100000 in
set_option maxHeartbeats 4000000 in
theorem c_X4_unit {l : Launch} {g : Gp} {X : va_W} (hE : E0 g) {Sm : St → Int32 → Option (Int32 × St)} {D : Nat} (hS : ∀ (σ : St) (x : Int32) (r : Int32) (σ1 : St), Sm σ x = some (r, σ1) → Ci l g yX4_sum cX4_sum 6 (some .int) D [.ref (ga g 7), .int x] (wD g σ ++ X) r (wD g σ1 ++ X)) {F : Nat} {r' : Int32} {σ' : St} {σ : St} {x1 : Int32} (h : f_X4_unit F Sm σ x1 = some (r', σ')) : Ci l g yX4_unit cX4_unit 5 (some .int) (D + 1) [.ref (ga g 7), .int x1] (wD g σ ++ X) r' (wD g σ' ++ X) := by
  refine rHead hE (by decide +kernel) (Nat.le_of_ble_eq_true rfl) (fun p e s m below meth c C hr _ hd ls hl => ?_)
  have hx := C.1
  have hb := C.2.1
  have hl : lv_has ls 5 [(0, .ref (ga g 7)), (1, .int x1)] := hl
  generalize ([.ref (ga g 7), .int x1] : List Value).toArray = args at C ⊢
  have C : Cx g p s m args meth c cX4_unit 5 RX4 := C
  rw [f_X4_unit] at h
  refine lv_aload_n hx hb dX4_unit_0 rfl (lv_at hl 0 rfl) ?_
  refine gX4_9 C hd dX4_unit_1 ?_
  refine lv_aload_n hx hb dX4_unit_4 rfl (lv_at hl 0 rfl) ?_
  refine gX4_15 C hd dX4_unit_5 ?_
  obtain ⟨r1, er1, h⟩ := cal_e h
  refine rCallI C hd (c_X6_kindAt hE er1) kX4_48 5 rfl rfl rfl rfl hl.1 rfl (Nat.le_of_ble_eq_true rfl) (rmle (by omega) (by decide)) ⟨Nat.le_refl _, Nat.le_refl _⟩ dX4_unit_8 (fun H locs hd => ?_)
  refine lv_istore_n (lv' := [(2, .int r1), (0, .ref (ga g 7)), (1, .int x1)]) hx hb dX4_unit_11 rfl hl (Nat.le_of_ble_eq_true rfl) rfl (fun ls hl => ?_)
  refine lv_iload_n hx hb dX4_unit_12 rfl (lv_at hl 0 rfl) ?_
  refine lv_bipush (v := 27) hx hb dX4_unit_13 bi_27 ?_
  refine lv_icmp_ne (tgt := 54) hx hb dX4_unit_15 (by decide) (fun c2 => ?_) (fun c2 => ?_)
  · replace h := iteF c2 h
    exact w_X4_unit_54 C hr hS σ r1 h _ _ _ hd (lv_sub hl [1, 0] rfl)
  · replace h := iteT c2 h
    refine lv_iload_n hx hb dX4_unit_18 rfl (lv_at hl 2 rfl) ?_
    refine lv_bipush (v := 6) hx hb dX4_unit_19 bi_6 ?_
    refine lv_icmp_ge (tgt := 54) hx hb dX4_unit_21 (by decide) (fun c3 => ?_) (fun c3 => ?_)
    · replace h := iteT c3 h
      exact w_X4_unit_54 C hr hS σ r1 h _ _ _ hd (lv_sub hl [1, 0] rfl)
    · replace h := iteF c3 h
      refine lv_aload_n hx hb dX4_unit_24 rfl (lv_at hl 1 rfl) ?_
      refine lv_dup hx hb dX4_unit_25 rfl ?_
      refine gX4_15 C hd dX4_unit_26 ?_
      refine lv_iconst (v := 1) hx hb dX4_unit_29 ic_1 ?_
      refine lv_iadd hx hb dX4_unit_30 ?_
      obtain ⟨t4, et4, h⟩ := bnd_e h
      refine pX4_15 C hd et4 dX4_unit_31 (fun H locs hd => ?_)
      refine lv_aload_n hx hb dX4_unit_34 rfl (lv_at hl 1 rfl) ?_
      refine lv_iload_n hx hb dX4_unit_35 rfl (lv_at hl 2 rfl) ?_
      refine lv_iconst (v := 1) hx hb dX4_unit_36 ic_1 ?_
      refine lv_iadd hx hb dX4_unit_37 ?_
      obtain ⟨r5, t6, et6, h⟩ := cal2_e h
      refine rCallI C hd (hS _ _ _ _ et6) kX4_78 7 rfl rfl rfl rfl hl.1 rfl (Nat.le_of_ble_eq_true rfl) (rmle (by omega) (by decide)) ⟨Nat.le_refl _, Nat.le_refl _⟩ dX4_unit_38 (fun H locs hd => ?_)
      refine lv_istore_n (lv' := [(3, .int r5), (2, .int r1), (0, .ref (ga g 7)), (1, .int x1)]) hx hb dX4_unit_41 rfl hl (Nat.le_of_ble_eq_true rfl) rfl (fun ls hl => ?_)
      refine lv_aload_n hx hb dX4_unit_42 rfl (lv_at hl 2 rfl) ?_
      refine lv_dup hx hb dX4_unit_43 rfl ?_
      refine gX4_15 C hd dX4_unit_44 ?_
      refine lv_iconst (v := 1) hx hb dX4_unit_47 ic_1 ?_
      refine lv_iadd hx hb dX4_unit_48 ?_
      obtain ⟨t7, et7, h⟩ := bnd_e h
      refine pX4_15 C hd et7 dX4_unit_49 (fun H locs hd => ?_)
      refine lv_iload_n hx hb dX4_unit_52 rfl (lv_at hl 0 rfl) ?_
      exact rIretS (w := wD g) C hr hd h dX4_unit_53
noncomputable def f_X4_product_106 (F : Nat) (Sm : St → Int32 → Option (Int32 × St)) (k_8 : St → Int32 → Int32 → Int32 → Option (Int32 × St)) (σ : St) (x1 : Int32) (x2 : Int32) (x3 : Int32) : Option (Int32 × St) :=
  bnd (x3 + 1) (fun v1 => k_8 σ x1 x2 v1)
set_option maxRecDepth 100000 in
set_option maxHeartbeats 4000000 in
theorem w_X4_product_106 {F : Nat} {r' : Int32} {σ' : St}  (C : Cx g p s m args meth c cX4_product 6 RX4) (hr : meth.sig.returnType = some .int) {Sm : St → Int32 → Option (Int32 × St)} {D : Nat} (hS : ∀ (σ : St) (x : Int32) (r : Int32) (σ1 : St), Sm σ x = some (r, σ1) → Ci l g yX4_sum cX4_sum 6 (some .int) D [.ref (ga g 7), .int x] (wD g σ ++ X) r (wD g σ1 ++ X))
    {k_8 : St → Int32 → Int32 → Int32 → Option (Int32 × St)} (hk_8 : (∀ (σ : St) (x1 : Int32) (x2 : Int32) (x3 : Int32), k_8 σ x1 x2 x3 = some (r', σ') → ∀ (H : Heap) (locs : List Loc) (ls : Array Slot), Dy g (wD g σ ++ X) s H locs → lv_has ls 6 [(0, .ref (ga g 7)), (1, .int x1), (2, .int x2), (3, .int x3)] → W p l e (rmD (D + 2)) s m args below meth c H locs 0 0 (QI g below args s (wD g σ' ++ X) r') (F0 m 8 ls []))) :
    (∀ (σ : St) (x1 : Int32) (x2 : Int32) (x3 : Int32), f_X4_product_106 F Sm k_8 σ x1 x2 x3 = some (r', σ') → ∀ (H : Heap) (locs : List Loc) (ls : Array Slot), Dy g (wD g σ ++ X) s H locs → lv_has ls 6 [(0, .ref (ga g 7)), (1, .int x1), (2, .int x2), (3, .int x3)] → W p l e (rmD (D + 2)) s m args below meth c H locs 0 0 (QI g below args s (wD g σ' ++ X) r') (F0 m 106 ls [])) := by
  have hx := C.1
  have hb := C.2.1
  have hE := C.2.2.2.2.2.2.2.2
  intro σ x1 x2 x3 h H locs ls hd hl
  rw [f_X4_product_106] at h
  obtain ⟨v1, ev1, h⟩ := bnd_e h
  refine lv_iinc (v := v1) (lv' := [(3, .int v1), (0, .ref (ga g 7)), (1, .int x1), (2, .int x2)]) hx hb dX4_product_106 hl (k := 3) rfl ((ii_1 _).trans ev1.symm) (Nat.le_of_ble_eq_true rfl) rfl (fun ls hl => ?_)
  refine lv_goto (tgt := 8) hx hb dX4_product_109 (by decide) ?_
  exact hk_8 σ x1 x2 v1 h _ _ _ hd (lv_sub hl [1, 2, 3, 0] rfl)
noncomputable def f_X4_product_105 (F : Nat) (Sm : St → Int32 → Option (Int32 × St)) (k_8 : St → Int32 → Int32 → Int32 → Option (Int32 × St)) (σ : St) (x1 : Int32) (x3 : Int32) (y0 : Int32) : Option (Int32 × St) :=
  f_X4_product_106 F Sm k_8 σ x1 y0 x3
set_option maxRecDepth 100000 in
set_option maxHeartbeats 4000000 in
theorem w_X4_product_105 {F : Nat} {r' : Int32} {σ' : St}  (C : Cx g p s m args meth c cX4_product 6 RX4) (hr : meth.sig.returnType = some .int) {Sm : St → Int32 → Option (Int32 × St)} {D : Nat} (hS : ∀ (σ : St) (x : Int32) (r : Int32) (σ1 : St), Sm σ x = some (r, σ1) → Ci l g yX4_sum cX4_sum 6 (some .int) D [.ref (ga g 7), .int x] (wD g σ ++ X) r (wD g σ1 ++ X))
    {k_8 : St → Int32 → Int32 → Int32 → Option (Int32 × St)} (hk_8 : (∀ (σ : St) (x1 : Int32) (x2 : Int32) (x3 : Int32), k_8 σ x1 x2 x3 = some (r', σ') → ∀ (H : Heap) (locs : List Loc) (ls : Array Slot), Dy g (wD g σ ++ X) s H locs → lv_has ls 6 [(0, .ref (ga g 7)), (1, .int x1), (2, .int x2), (3, .int x3)] → W p l e (rmD (D + 2)) s m args below meth c H locs 0 0 (QI g below args s (wD g σ' ++ X) r') (F0 m 8 ls []))) :
    (∀ (σ : St) (x1 : Int32) (x3 : Int32) (y0 : Int32), f_X4_product_105 F Sm k_8 σ x1 x3 y0 = some (r', σ') → ∀ (H : Heap) (locs : List Loc) (ls : Array Slot), Dy g (wD g σ ++ X) s H locs → lv_has ls 6 [(0, .ref (ga g 7)), (1, .int x1), (3, .int x3)] → W p l e (rmD (D + 2)) s m args below meth c H locs 0 0 (QI g below args s (wD g σ' ++ X) r') (F0 m 105 ls [.int y0])) := by
  have hx := C.1
  have hb := C.2.1
  have hE := C.2.2.2.2.2.2.2.2
  intro σ x1 x3 y0 h H locs ls hd hl
  rw [f_X4_product_105] at h
  refine lv_istore_n (lv' := [(2, .int y0), (0, .ref (ga g 7)), (1, .int x1), (3, .int x3)]) hx hb dX4_product_105 rfl hl (Nat.le_of_ble_eq_true rfl) rfl (fun ls hl => ?_)
  exact w_X4_product_106 C hr hS hk_8 σ x1 y0 x3 h _ _ _ hd (lv_sub hl [1, 2, 0, 3] rfl)
noncomputable def f_X4_product_8 (F : Nat) (Sm : St → Int32 → Option (Int32 × St)) : Nat → St → Int32 → Int32 → Int32 → Option (Int32 × St)
  | 0, _, _, _, _ => none
  | n + 1, σ, x1, x2, x3 => if 400 ≤ x3 then (some (x2, σ)) else (cal (f_X6_kindAt F σ (σ.1 26)) (fun r2 => if r2 < 24 then (some (x2, σ)) else (if r2 ≤ 26 then (bnd (ss σ 26 ((σ.1 26) + 1)) (fun t5 => cal2 (f_X4_unit F Sm t5 x1) (fun r6 t7 => if r2 = 24 then (bnd (x2 * r6) (fun v13 => f_X4_product_106 F Sm (f_X4_product_8 F Sm n) t7 x1 v13 x3)) else (if r6 = 0 then (f_X4_product_106 F Sm (f_X4_product_8 F Sm n) t7 x1 0 x3) else (if r2 = 25 then (if ¬ r6 = 0 then f_X4_product_105 F Sm (f_X4_product_8 F Sm n) t7 x1 x3 (x2 / r6) else none) else (if ¬ r6 = 0 then f_X4_product_105 F Sm (f_X4_product_8 F Sm n) t7 x1 x3 (x2 - x2 / r6 * r6) else none)))))) else (some (x2, σ)))))
set_option maxRecDepth 100000 in
set_option maxHeartbeats 4000000 in
theorem w_X4_product_8 {F : Nat} {r' : Int32} {σ' : St}  (C : Cx g p s m args meth c cX4_product 6 RX4) (hr : meth.sig.returnType = some .int) {Sm : St → Int32 → Option (Int32 × St)} {D : Nat} (hS : ∀ (σ : St) (x : Int32) (r : Int32) (σ1 : St), Sm σ x = some (r, σ1) → Ci l g yX4_sum cX4_sum 6 (some .int) D [.ref (ga g 7), .int x] (wD g σ ++ X) r (wD g σ1 ++ X)) :
    (∀ (n : Nat) (σ : St) (x1 : Int32) (x2 : Int32) (x3 : Int32), f_X4_product_8 F Sm n σ x1 x2 x3 = some (r', σ') → ∀ (H : Heap) (locs : List Loc) (ls : Array Slot), Dy g (wD g σ ++ X) s H locs → lv_has ls 6 [(0, .ref (ga g 7)), (1, .int x1), (2, .int x2), (3, .int x3)] → W p l e (rmD (D + 2)) s m args below meth c H locs 0 0 (QI g below args s (wD g σ' ++ X) r') (F0 m 8 ls [])) := by
  have hx := C.1
  have hb := C.2.1
  have hE := C.2.2.2.2.2.2.2.2
  intro n
  induction n with
  | zero =>
    intro σ x1 x2 x3 h
    cases h
  | succ n ih =>
    intro σ x1 x2 x3 h H locs ls hd hl
    rw [f_X4_product_8] at h
    refine lv_iload_n hx hb dX4_product_8 rfl (lv_at hl 3 rfl) ?_
    refine lv_sipush (v := 400) hx hb dX4_product_9 si_400 ?_
    refine lv_icmp_ge (tgt := 112) hx hb dX4_product_12 (by decide) (fun c1 => ?_) (fun c1 => ?_)
    · replace h := iteT c1 h
      refine lv_iload_n hx hb dX4_product_112 rfl (lv_at hl 2 rfl) ?_
      exact rIretS (w := wD g) C hr hd h dX4_product_113
    · replace h := iteF c1 h
      refine lv_aload_n hx hb dX4_product_15 rfl (lv_at hl 0 rfl) ?_
      refine gX4_9 C hd dX4_product_16 ?_
      refine lv_aload_n hx hb dX4_product_19 rfl (lv_at hl 0 rfl) ?_
      refine gX4_15 C hd dX4_product_20 ?_
      obtain ⟨r2, er2, h⟩ := cal_e h
      refine rCallI C hd (c_X6_kindAt hE er2) kX4_48 5 rfl rfl rfl rfl hl.1 rfl (Nat.le_of_ble_eq_true rfl) (rmle (by omega) (by decide)) ⟨Nat.le_refl _, Nat.le_refl _⟩ dX4_product_23 (fun H locs hd => ?_)
      refine lv_istore (lv' := [(4, .int r2), (0, .ref (ga g 7)), (1, .int x1), (2, .int x2), (3, .int x3)]) hx hb dX4_product_26 hl (Nat.le_of_ble_eq_true rfl) rfl (fun ls hl => ?_)
      refine lv_iload hx hb dX4_product_28 (lv_at hl 0 rfl) ?_
      refine lv_bipush (v := 24) hx hb dX4_product_30 bi_24 ?_
      refine lv_icmp_lt (tgt := 112) hx hb dX4_product_32 (by decide) (fun c3 => ?_) (fun c3 => ?_)
      · replace h := iteT c3 h
        refine lv_iload_n hx hb dX4_product_112 rfl (lv_at hl 3 rfl) ?_
        exact rIretS (w := wD g) C hr hd h dX4_product_113
      · replace h := iteF c3 h
        refine lv_iload hx hb dX4_product_35 (lv_at hl 0 rfl) ?_
        refine lv_bipush (v := 26) hx hb dX4_product_37 bi_26 ?_
        refine lv_icmp_le (tgt := 45) hx hb dX4_product_39 (by decide) (fun c4 => ?_) (fun c4 => ?_)
        · replace h := iteT c4 h
          refine lv_aload_n hx hb dX4_product_45 rfl (lv_at hl 1 rfl) ?_
          refine lv_dup hx hb dX4_product_46 rfl ?_
          refine gX4_15 C hd dX4_product_47 ?_
          refine lv_iconst (v := 1) hx hb dX4_product_50 ic_1 ?_
          refine lv_iadd hx hb dX4_product_51 ?_
          obtain ⟨t5, et5, h⟩ := bnd_e h
          refine pX4_15 C hd et5 dX4_product_52 (fun H locs hd => ?_)
          refine lv_aload_n hx hb dX4_product_55 rfl (lv_at hl 1 rfl) ?_
          refine lv_iload_n hx hb dX4_product_56 rfl (lv_at hl 2 rfl) ?_
          obtain ⟨r6, t7, et7, h⟩ := cal2_e h
          refine rCallI C hd (c_X4_unit hE hS et7) kX4_84 7 rfl rfl rfl rfl hl.1 rfl (Nat.le_of_ble_eq_true rfl) (rmle (by omega) (by decide)) ⟨Nat.le_refl _, Nat.le_refl _⟩ dX4_product_57 (fun H locs hd => ?_)
          refine lv_istore (lv' := [(5, .int r6), (4, .int r2), (0, .ref (ga g 7)), (1, .int x1), (2, .int x2), (3, .int x3)]) hx hb dX4_product_60 hl (Nat.le_of_ble_eq_true rfl) rfl (fun ls hl => ?_)
          refine lv_iload hx hb dX4_product_62 (lv_at hl 1 rfl) ?_
          refine lv_bipush (v := 24) hx hb dX4_product_64 bi_24 ?_
          refine lv_icmp_ne (tgt := 77) hx hb dX4_product_66 (by decide) (fun c8 => ?_) (fun c8 => ?_)
          · replace h := iteF c8 h
            refine lv_iload hx hb dX4_product_77 (lv_at hl 0 rfl) ?_
            refine lv_if_ne (tgt := 87) hx hb dX4_product_79 (by decide) (fun c9 => ?_) (fun c9 => ?_)
            · replace h := iteF c9 h
              refine lv_iload hx hb dX4_product_87 (lv_at hl 1 rfl) ?_
              refine lv_bipush (v := 25) hx hb dX4_product_89 bi_25 ?_
              refine lv_icmp_ne (tgt := 101) hx hb dX4_product_91 (by decide) (fun c10 => ?_) (fun c10 => ?_)
              · replace h := iteF c10 h
                refine lv_iload_n hx hb dX4_product_101 rfl (lv_at hl 4 rfl) ?_
                refine lv_iload hx hb dX4_product_102 (lv_at hl 0 rfl) ?_
                obtain ⟨n11, h⟩ := chk h
                refine lv_irem hx hb dX4_product_104 n11 ?_
                exact w_X4_product_105 C hr hS ih t7 x1 x3 (x2 - x2 / r6 * r6) h _ _ _ hd (lv_sub hl [2, 3, 5] rfl)
              · replace h := iteT c10 h
                refine lv_iload_n hx hb dX4_product_94 rfl (lv_at hl 4 rfl) ?_
                refine lv_iload hx hb dX4_product_95 (lv_at hl 0 rfl) ?_
                obtain ⟨n12, h⟩ := chk h
                refine lv_idiv hx hb dX4_product_97 n12 ?_
                refine lv_goto (tgt := 105) hx hb dX4_product_98 (by decide) ?_
                exact w_X4_product_105 C hr hS ih t7 x1 x3 (x2 / r6) h _ _ _ hd (lv_sub hl [2, 3, 5] rfl)
            · replace h := iteT c9 h
              refine lv_iconst (v := 0) hx hb dX4_product_82 ic_0 ?_
              refine lv_istore_n (lv' := [(2, .int 0), (5, .int r6), (4, .int r2), (0, .ref (ga g 7)), (1, .int x1), (3, .int x3)]) hx hb dX4_product_83 rfl hl (Nat.le_of_ble_eq_true rfl) rfl (fun ls hl => ?_)
              refine lv_goto (tgt := 106) hx hb dX4_product_84 (by decide) ?_
              exact w_X4_product_106 C hr hS ih t7 x1 0 x3 h _ _ _ hd (lv_sub hl [3, 4, 0, 5] rfl)
          · replace h := iteT c8 h
            refine lv_iload_n hx hb dX4_product_69 rfl (lv_at hl 4 rfl) ?_
            refine lv_iload hx hb dX4_product_70 (lv_at hl 0 rfl) ?_
            refine lv_imul hx hb dX4_product_72 ?_
            obtain ⟨v13, ev13, h⟩ := bnd_e h
            refine rTop ev13 ?_
            refine lv_istore_n (lv' := [(2, .int v13), (5, .int r6), (4, .int r2), (0, .ref (ga g 7)), (1, .int x1), (3, .int x3)]) hx hb dX4_product_73 rfl hl (Nat.le_of_ble_eq_true rfl) rfl (fun ls hl => ?_)
            refine lv_goto (tgt := 106) hx hb dX4_product_74 (by decide) ?_
            exact w_X4_product_106 C hr hS ih t7 x1 v13 x3 h _ _ _ hd (lv_sub hl [3, 4, 0, 5] rfl)
        · replace h := iteF c4 h
          refine lv_goto (tgt := 112) hx hb dX4_product_42 (by decide) ?_
          refine lv_iload_n hx hb dX4_product_112 rfl (lv_at hl 3 rfl) ?_
          exact rIretS (w := wD g) C hr hd h dX4_product_113
noncomputable def f_X4_product (F : Nat) (Sm : St → Int32 → Option (Int32 × St)) (σ : St) (x1 : Int32) : Option (Int32 × St) :=
  cal2 (f_X4_unit F Sm σ x1) (fun r1 t2 => f_X4_product_8 F Sm F t2 x1 r1 0)
set_option maxRecDepth 100000 in
set_option maxHeartbeats 4000000 in
theorem c_X4_product {l : Launch} {g : Gp} {X : va_W} (hE : E0 g) {Sm : St → Int32 → Option (Int32 × St)} {D : Nat} (hS : ∀ (σ : St) (x : Int32) (r : Int32) (σ1 : St), Sm σ x = some (r, σ1) → Ci l g yX4_sum cX4_sum 6 (some .int) D [.ref (ga g 7), .int x] (wD g σ ++ X) r (wD g σ1 ++ X)) {F : Nat} {r' : Int32} {σ' : St} {σ : St} {x1 : Int32} (h : f_X4_product F Sm σ x1 = some (r', σ')) : Ci l g yX4_product cX4_product 6 (some .int) (D + 2) [.ref (ga g 7), .int x1] (wD g σ ++ X) r' (wD g σ' ++ X) := by
  refine rHead hE (by decide +kernel) (Nat.le_of_ble_eq_true rfl) (fun p e s m below meth c C hr _ hd ls hl => ?_)
  have hx := C.1
  have hb := C.2.1
  have hl : lv_has ls 6 [(0, .ref (ga g 7)), (1, .int x1)] := hl
  generalize ([.ref (ga g 7), .int x1] : List Value).toArray = args at C ⊢
  have C : Cx g p s m args meth c cX4_product 6 RX4 := C
  rw [f_X4_product] at h
  refine lv_aload_n hx hb dX4_product_0 rfl (lv_at hl 0 rfl) ?_
  refine lv_iload_n hx hb dX4_product_1 rfl (lv_at hl 1 rfl) ?_
  obtain ⟨r1, t2, et2, h⟩ := cal2_e h
  refine rCallI C hd (c_X4_unit hE hS et2) kX4_84 7 rfl rfl rfl rfl hl.1 rfl (Nat.le_of_ble_eq_true rfl) (rmle (by omega) (by decide)) ⟨Nat.le_refl _, Nat.le_refl _⟩ dX4_product_2 (fun H locs hd => ?_)
  refine lv_istore_n (lv' := [(2, .int r1), (0, .ref (ga g 7)), (1, .int x1)]) hx hb dX4_product_5 rfl hl (Nat.le_of_ble_eq_true rfl) rfl (fun ls hl => ?_)
  refine lv_iconst (v := 0) hx hb dX4_product_6 ic_0 ?_
  refine lv_istore_n (lv' := [(3, .int 0), (2, .int r1), (0, .ref (ga g 7)), (1, .int x1)]) hx hb dX4_product_7 rfl hl (Nat.le_of_ble_eq_true rfl) rfl (fun ls hl => ?_)
  exact w_X4_product_8 C hr hS _ t2 x1 r1 0 h _ _ _ hd (lv_sub hl [2, 3, 1, 0] rfl)
noncomputable def f_X4_sum_80 (F : Nat) (Sm : St → Int32 → Option (Int32 × St)) (k_8 : St → Int32 → Int32 → Int32 → Option (Int32 × St)) (σ : St) (x1 : Int32) (x3 : Int32) (y0 : Int32) : Option (Int32 × St) :=
  bnd (x3 + 1) (fun v1 => k_8 σ x1 y0 v1)
set_option maxRecDepth 100000 in
set_option maxHeartbeats 4000000 in
theorem w_X4_sum_80 {F : Nat} {r' : Int32} {σ' : St}  (C : Cx g p s m args meth c cX4_sum 6 RX4) (hr : meth.sig.returnType = some .int) {Sm : St → Int32 → Option (Int32 × St)} {D : Nat} (hS : ∀ (σ : St) (x : Int32) (r : Int32) (σ1 : St), Sm σ x = some (r, σ1) → Ci l g yX4_sum cX4_sum 6 (some .int) D [.ref (ga g 7), .int x] (wD g σ ++ X) r (wD g σ1 ++ X))
    {k_8 : St → Int32 → Int32 → Int32 → Option (Int32 × St)} (hk_8 : (∀ (σ : St) (x1 : Int32) (x2 : Int32) (x3 : Int32), k_8 σ x1 x2 x3 = some (r', σ') → ∀ (H : Heap) (locs : List Loc) (ls : Array Slot), Dy g (wD g σ ++ X) s H locs → lv_has ls 6 [(0, .ref (ga g 7)), (1, .int x1), (2, .int x2), (3, .int x3)] → W p l e (rmD (D + 3)) s m args below meth c H locs 0 0 (QI g below args s (wD g σ' ++ X) r') (F0 m 8 ls []))) :
    (∀ (σ : St) (x1 : Int32) (x3 : Int32) (y0 : Int32), f_X4_sum_80 F Sm k_8 σ x1 x3 y0 = some (r', σ') → ∀ (H : Heap) (locs : List Loc) (ls : Array Slot), Dy g (wD g σ ++ X) s H locs → lv_has ls 6 [(0, .ref (ga g 7)), (1, .int x1), (3, .int x3)] → W p l e (rmD (D + 3)) s m args below meth c H locs 0 0 (QI g below args s (wD g σ' ++ X) r') (F0 m 80 ls [.int y0])) := by
  have hx := C.1
  have hb := C.2.1
  have hE := C.2.2.2.2.2.2.2.2
  intro σ x1 x3 y0 h H locs ls hd hl
  rw [f_X4_sum_80] at h
  refine lv_istore_n (lv' := [(2, .int y0), (0, .ref (ga g 7)), (1, .int x1), (3, .int x3)]) hx hb dX4_sum_80 rfl hl (Nat.le_of_ble_eq_true rfl) rfl (fun ls hl => ?_)
  obtain ⟨v1, ev1, h⟩ := bnd_e h
  refine lv_iinc (v := v1) (lv' := [(3, .int v1), (2, .int y0), (0, .ref (ga g 7)), (1, .int x1)]) hx hb dX4_sum_81 hl (k := 3) rfl ((ii_1 _).trans ev1.symm) (Nat.le_of_ble_eq_true rfl) rfl (fun ls hl => ?_)
  refine lv_goto (tgt := 8) hx hb dX4_sum_84 (by decide) ?_
  exact hk_8 σ x1 y0 v1 h _ _ _ hd (lv_sub hl [2, 3, 1, 0] rfl)
noncomputable def f_X4_sum_45 (F : Nat) (Sm : St → Int32 → Option (Int32 × St)) (k_8 : St → Int32 → Int32 → Int32 → Option (Int32 × St)) (σ : St) (x1 : Int32) (x2 : Int32) (x3 : Int32) (x4 : Int32) : Option (Int32 × St) :=
  bnd (ss σ 26 ((σ.1 26) + 1)) (fun t1 => cal2 (f_X4_product F Sm t1 x1) (fun r2 t3 => if x4 = 22 then (f_X4_sum_80 F Sm k_8 t3 x1 x3 (x2 + r2)) else (f_X4_sum_80 F Sm k_8 t3 x1 x3 (x2 - r2))))
set_option maxRecDepth 100000 in
set_option maxHeartbeats 4000000 in
theorem w_X4_sum_45 {F : Nat} {r' : Int32} {σ' : St}  (C : Cx g p s m args meth c cX4_sum 6 RX4) (hr : meth.sig.returnType = some .int) {Sm : St → Int32 → Option (Int32 × St)} {D : Nat} (hS : ∀ (σ : St) (x : Int32) (r : Int32) (σ1 : St), Sm σ x = some (r, σ1) → Ci l g yX4_sum cX4_sum 6 (some .int) D [.ref (ga g 7), .int x] (wD g σ ++ X) r (wD g σ1 ++ X))
    {k_8 : St → Int32 → Int32 → Int32 → Option (Int32 × St)} (hk_8 : (∀ (σ : St) (x1 : Int32) (x2 : Int32) (x3 : Int32), k_8 σ x1 x2 x3 = some (r', σ') → ∀ (H : Heap) (locs : List Loc) (ls : Array Slot), Dy g (wD g σ ++ X) s H locs → lv_has ls 6 [(0, .ref (ga g 7)), (1, .int x1), (2, .int x2), (3, .int x3)] → W p l e (rmD (D + 3)) s m args below meth c H locs 0 0 (QI g below args s (wD g σ' ++ X) r') (F0 m 8 ls []))) :
    (∀ (σ : St) (x1 : Int32) (x2 : Int32) (x3 : Int32) (x4 : Int32), f_X4_sum_45 F Sm k_8 σ x1 x2 x3 x4 = some (r', σ') → ∀ (H : Heap) (locs : List Loc) (ls : Array Slot), Dy g (wD g σ ++ X) s H locs → lv_has ls 6 [(0, .ref (ga g 7)), (1, .int x1), (2, .int x2), (3, .int x3), (4, .int x4)] → W p l e (rmD (D + 3)) s m args below meth c H locs 0 0 (QI g below args s (wD g σ' ++ X) r') (F0 m 45 ls [])) := by
  have hx := C.1
  have hb := C.2.1
  have hE := C.2.2.2.2.2.2.2.2
  intro σ x1 x2 x3 x4 h H locs ls hd hl
  rw [f_X4_sum_45] at h
  refine lv_aload_n hx hb dX4_sum_45 rfl (lv_at hl 0 rfl) ?_
  refine lv_dup hx hb dX4_sum_46 rfl ?_
  refine gX4_15 C hd dX4_sum_47 ?_
  refine lv_iconst (v := 1) hx hb dX4_sum_50 ic_1 ?_
  refine lv_iadd hx hb dX4_sum_51 ?_
  obtain ⟨t1, et1, h⟩ := bnd_e h
  refine pX4_15 C hd et1 dX4_sum_52 (fun H locs hd => ?_)
  refine lv_aload_n hx hb dX4_sum_55 rfl (lv_at hl 0 rfl) ?_
  refine lv_iload_n hx hb dX4_sum_56 rfl (lv_at hl 1 rfl) ?_
  obtain ⟨r2, t3, et3, h⟩ := cal2_e h
  refine rCallI C hd (c_X4_product hE hS et3) kX4_81 7 rfl rfl rfl rfl hl.1 rfl (Nat.le_of_ble_eq_true rfl) (rmle (by omega) (by decide)) ⟨Nat.le_refl _, Nat.le_refl _⟩ dX4_sum_57 (fun H locs hd => ?_)
  refine lv_istore (lv' := [(5, .int r2), (0, .ref (ga g 7)), (1, .int x1), (2, .int x2), (3, .int x3), (4, .int x4)]) hx hb dX4_sum_60 hl (Nat.le_of_ble_eq_true rfl) rfl (fun ls hl => ?_)
  refine lv_iload hx hb dX4_sum_62 (lv_at hl 5 rfl) ?_
  refine lv_bipush (v := 22) hx hb dX4_sum_64 bi_22 ?_
  refine lv_icmp_ne (tgt := 76) hx hb dX4_sum_66 (by decide) (fun c4 => ?_) (fun c4 => ?_)
  · replace h := iteF c4 h
    refine lv_iload_n hx hb dX4_sum_76 rfl (lv_at hl 3 rfl) ?_
    refine lv_iload hx hb dX4_sum_77 (lv_at hl 0 rfl) ?_
    refine lv_isub hx hb dX4_sum_79 ?_
    exact w_X4_sum_80 C hr hS hk_8 t3 x1 x3 (x2 - r2) h _ _ _ hd (lv_sub hl [1, 2, 4] rfl)
  · replace h := iteT c4 h
    refine lv_iload_n hx hb dX4_sum_69 rfl (lv_at hl 3 rfl) ?_
    refine lv_iload hx hb dX4_sum_70 (lv_at hl 0 rfl) ?_
    refine lv_iadd hx hb dX4_sum_72 ?_
    refine lv_goto (tgt := 80) hx hb dX4_sum_73 (by decide) ?_
    exact w_X4_sum_80 C hr hS hk_8 t3 x1 x3 (x2 + r2) h _ _ _ hd (lv_sub hl [1, 2, 4] rfl)
noncomputable def f_X4_sum_8 (F : Nat) (Sm : St → Int32 → Option (Int32 × St)) : Nat → St → Int32 → Int32 → Int32 → Option (Int32 × St)
  | 0, _, _, _, _ => none
  | n + 1, σ, x1, x2, x3 => if 400 ≤ x3 then (some (x2, σ)) else (cal (f_X6_kindAt F σ (σ.1 26)) (fun r2 => if r2 = 22 then (f_X4_sum_45 F Sm (f_X4_sum_8 F Sm n) σ x1 x2 x3 r2) else (if r2 = 23 then (f_X4_sum_45 F Sm (f_X4_sum_8 F Sm n) σ x1 x2 x3 r2) else (some (x2, σ)))))
set_option maxRecDepth 100000 in
set_option maxHeartbeats 4000000 in
theorem w_X4_sum_8 {F : Nat} {r' : Int32} {σ' : St}  (C : Cx g p s m args meth c cX4_sum 6 RX4) (hr : meth.sig.returnType = some .int) {Sm : St → Int32 → Option (Int32 × St)} {D : Nat} (hS : ∀ (σ : St) (x : Int32) (r : Int32) (σ1 : St), Sm σ x = some (r, σ1) → Ci l g yX4_sum cX4_sum 6 (some .int) D [.ref (ga g 7), .int x] (wD g σ ++ X) r (wD g σ1 ++ X)) :
    (∀ (n : Nat) (σ : St) (x1 : Int32) (x2 : Int32) (x3 : Int32), f_X4_sum_8 F Sm n σ x1 x2 x3 = some (r', σ') → ∀ (H : Heap) (locs : List Loc) (ls : Array Slot), Dy g (wD g σ ++ X) s H locs → lv_has ls 6 [(0, .ref (ga g 7)), (1, .int x1), (2, .int x2), (3, .int x3)] → W p l e (rmD (D + 3)) s m args below meth c H locs 0 0 (QI g below args s (wD g σ' ++ X) r') (F0 m 8 ls [])) := by
  have hx := C.1
  have hb := C.2.1
  have hE := C.2.2.2.2.2.2.2.2
  intro n
  induction n with
  | zero =>
    intro σ x1 x2 x3 h
    cases h
  | succ n ih =>
    intro σ x1 x2 x3 h H locs ls hd hl
    rw [f_X4_sum_8] at h
    refine lv_iload_n hx hb dX4_sum_8 rfl (lv_at hl 3 rfl) ?_
    refine lv_sipush (v := 400) hx hb dX4_sum_9 si_400 ?_
    refine lv_icmp_ge (tgt := 87) hx hb dX4_sum_12 (by decide) (fun c1 => ?_) (fun c1 => ?_)
    · replace h := iteT c1 h
      refine lv_iload_n hx hb dX4_sum_87 rfl (lv_at hl 2 rfl) ?_
      exact rIretS (w := wD g) C hr hd h dX4_sum_88
    · replace h := iteF c1 h
      refine lv_aload_n hx hb dX4_sum_15 rfl (lv_at hl 0 rfl) ?_
      refine gX4_9 C hd dX4_sum_16 ?_
      refine lv_aload_n hx hb dX4_sum_19 rfl (lv_at hl 0 rfl) ?_
      refine gX4_15 C hd dX4_sum_20 ?_
      obtain ⟨r2, er2, h⟩ := cal_e h
      refine rCallI C hd (c_X6_kindAt hE er2) kX4_48 5 rfl rfl rfl rfl hl.1 rfl (Nat.le_of_ble_eq_true rfl) (rmle (by omega) (by decide)) ⟨Nat.le_refl _, Nat.le_refl _⟩ dX4_sum_23 (fun H locs hd => ?_)
      refine lv_istore (lv' := [(4, .int r2), (0, .ref (ga g 7)), (1, .int x1), (2, .int x2), (3, .int x3)]) hx hb dX4_sum_26 hl (Nat.le_of_ble_eq_true rfl) rfl (fun ls hl => ?_)
      refine lv_iload hx hb dX4_sum_28 (lv_at hl 0 rfl) ?_
      refine lv_bipush (v := 22) hx hb dX4_sum_30 bi_22 ?_
      refine lv_icmp_eq (tgt := 45) hx hb dX4_sum_32 (by decide) (fun c3 => ?_) (fun c3 => ?_)
      · replace h := iteT c3 h
        exact w_X4_sum_45 C hr hS ih σ x1 x2 x3 r2 h _ _ _ hd (lv_sub hl [1, 2, 3, 4, 0] rfl)
      · replace h := iteF c3 h
        refine lv_iload hx hb dX4_sum_35 (lv_at hl 0 rfl) ?_
        refine lv_bipush (v := 23) hx hb dX4_sum_37 bi_23 ?_
        refine lv_icmp_eq (tgt := 45) hx hb dX4_sum_39 (by decide) (fun c4 => ?_) (fun c4 => ?_)
        · replace h := iteT c4 h
          exact w_X4_sum_45 C hr hS ih σ x1 x2 x3 r2 h _ _ _ hd (lv_sub hl [1, 2, 3, 4, 0] rfl)
        · replace h := iteF c4 h
          refine lv_goto (tgt := 87) hx hb dX4_sum_42 (by decide) ?_
          refine lv_iload_n hx hb dX4_sum_87 rfl (lv_at hl 3 rfl) ?_
          exact rIretS (w := wD g) C hr hd h dX4_sum_88
noncomputable def f_X4_sum (F : Nat) (Sm : St → Int32 → Option (Int32 × St)) (σ : St) (x1 : Int32) : Option (Int32 × St) :=
  cal2 (f_X4_product F Sm σ x1) (fun r1 t2 => f_X4_sum_8 F Sm F t2 x1 r1 0)
set_option maxRecDepth 100000 in
set_option maxHeartbeats 4000000 in
theorem c_X4_sum {l : Launch} {g : Gp} {X : va_W} (hE : E0 g) {Sm : St → Int32 → Option (Int32 × St)} {D : Nat} (hS : ∀ (σ : St) (x : Int32) (r : Int32) (σ1 : St), Sm σ x = some (r, σ1) → Ci l g yX4_sum cX4_sum 6 (some .int) D [.ref (ga g 7), .int x] (wD g σ ++ X) r (wD g σ1 ++ X)) {F : Nat} {r' : Int32} {σ' : St} {σ : St} {x1 : Int32} (h : f_X4_sum F Sm σ x1 = some (r', σ')) : Ci l g yX4_sum cX4_sum 6 (some .int) (D + 3) [.ref (ga g 7), .int x1] (wD g σ ++ X) r' (wD g σ' ++ X) := by
  refine rHead hE (by decide +kernel) (Nat.le_of_ble_eq_true rfl) (fun p e s m below meth c C hr _ hd ls hl => ?_)
  have hx := C.1
  have hb := C.2.1
  have hl : lv_has ls 6 [(0, .ref (ga g 7)), (1, .int x1)] := hl
  generalize ([.ref (ga g 7), .int x1] : List Value).toArray = args at C ⊢
  have C : Cx g p s m args meth c cX4_sum 6 RX4 := C
  rw [f_X4_sum] at h
  refine lv_aload_n hx hb dX4_sum_0 rfl (lv_at hl 0 rfl) ?_
  refine lv_iload_n hx hb dX4_sum_1 rfl (lv_at hl 1 rfl) ?_
  obtain ⟨r1, t2, et2, h⟩ := cal2_e h
  refine rCallI C hd (c_X4_product hE hS et2) kX4_81 7 rfl rfl rfl rfl hl.1 rfl (Nat.le_of_ble_eq_true rfl) (rmle (by omega) (by decide)) ⟨Nat.le_refl _, Nat.le_refl _⟩ dX4_sum_2 (fun H locs hd => ?_)
  refine lv_istore_n (lv' := [(2, .int r1), (0, .ref (ga g 7)), (1, .int x1)]) hx hb dX4_sum_5 rfl hl (Nat.le_of_ble_eq_true rfl) rfl (fun ls hl => ?_)
  refine lv_iconst (v := 0) hx hb dX4_sum_6 ic_0 ?_
  refine lv_istore_n (lv' := [(3, .int 0), (2, .int r1), (0, .ref (ga g 7)), (1, .int x1)]) hx hb dX4_sum_7 rfl hl (Nat.le_of_ble_eq_true rfl) rfl (fun ls hl => ?_)
  exact w_X4_sum_8 C hr hS _ t2 x1 r1 0 h _ _ _ hd (lv_sub hl [2, 3, 1, 0] rfl)
noncomputable def f_X4_sumN (F : Nat) : Nat → St → Int32 → Option (Int32 × St)
  | 0 => fun _ _ => none
  | n + 1 => f_X4_sum F (f_X4_sumN F n)
theorem c_X4_sumN {l : Launch} {g : Gp} {X : va_W} (hE : E0 g) {F : Nat} : ∀ (n : Nat) (σ : St) (x r : Int32) (σ1 : St), f_X4_sumN F n σ x = some (r, σ1) → Ci l g yX4_sum cX4_sum 6 (some .int) (3 * n) [.ref (ga g 7), .int x] (wD g σ ++ X) r (wD g σ1 ++ X) := by
  intro n
  induction n with
  | zero => intro σ x r σ1 h; cases h
  | succ n ih => intro σ x r σ1 h; exact c_X4_sum hE (D := 3 * n) ih h
noncomputable def f_X4_reckon_144 (F : Nat) (σ : St) (x1 : Int32) (y0 : Int32) : Option (Int32 × St) :=
  bnd (ss σ 30 y0) (fun t1 => if inb x1 10 = true then if (argT x1.toNatClampNeg) ≤ 2 then (bnd (ss t1 31 0) (fun t4 => bnd (ss t4 26 ((t4.1 26) + 1)) (fun t5 => some (1, t5)))) else (cal2 (f_X4_sumN F 8 t1 0) (fun r6 t7 => bnd (ss t7 31 r6) (fun t8 => bnd (ss t8 26 ((t8.1 26) + 1)) (fun t9 => some (1, t9))))) else none)
set_option maxRecDepth 100000 in
set_option maxHeartbeats 4000000 in
theorem w_X4_reckon_144 {F : Nat} {r' : Int32} {σ' : St}  (C : Cx g p s m args meth c cX4_reckon 2 RX4) (hr : meth.sig.returnType = some .boolean) :
    (∀ (σ : St) (x1 : Int32) (y0 : Int32), f_X4_reckon_144 F σ x1 y0 = some (r', σ') → ∀ (H : Heap) (locs : List Loc) (ls : Array Slot), Dy g (wD g σ ++ X) s H locs → lv_has ls 2 [(0, .ref (ga g 7)), (1, .int x1)] → W p l e (rmD 25) s m args below meth c H locs 0 0 (QI g below args s (wD g σ' ++ X) r') (F0 m 144 ls [.int y0, .ref (ga g 7)])) := by
  have hx := C.1
  have hb := C.2.1
  have hE := C.2.2.2.2.2.2.2.2
  intro σ x1 y0 h H locs ls hd hl
  rw [f_X4_reckon_144] at h
  obtain ⟨t1, et1, h⟩ := bnd_e h
  refine pX4_41 C hd et1 dX4_reckon_144 (fun H locs hd => ?_)
  refine lv_aload_n hx hb dX4_reckon_147 rfl (lv_at hl 0 rfl) ?_
  obtain ⟨aA, hA1, hA2⟩ := argZ C
  refine rArgGet (host := "RestoreDesk") C hd hA1 (mT 624 (by decide +kernel)) dX4_reckon_148 ?_
  refine lv_iload_n hx hb dX4_reckon_151 rfl (lv_at hl 1 rfl) ?_
  obtain ⟨n2, h⟩ := chk h
  refine rArgLd C hd hA2 (inb_i n2) dX4_reckon_152 ?_
  refine lv_iconst (v := 2) hx hb dX4_reckon_153 ic_2 ?_
  refine lv_icmp_le (tgt := 165) hx hb dX4_reckon_154 (by decide) (fun c3 => ?_) (fun c3 => ?_)
  · replace h := iteT c3 h
    refine lv_iconst (v := 0) hx hb dX4_reckon_165 ic_0 ?_
    obtain ⟨t4, et4, h⟩ := bnd_e h
    refine pX4_44 C hd et4 dX4_reckon_166 (fun H locs hd => ?_)
    refine lv_aload_n hx hb dX4_reckon_169 rfl (lv_at hl 0 rfl) ?_
    refine lv_dup hx hb dX4_reckon_170 rfl ?_
    refine gX4_15 C hd dX4_reckon_171 ?_
    refine lv_iconst (v := 1) hx hb dX4_reckon_174 ic_1 ?_
    refine lv_iadd hx hb dX4_reckon_175 ?_
    obtain ⟨t5, et5, h⟩ := bnd_e h
    refine pX4_15 C hd et5 dX4_reckon_176 (fun H locs hd => ?_)
    refine lv_iconst (v := 1) hx hb dX4_reckon_179 ic_1 ?_
    exact rZretS (w := wD g) C hr hd h (by decide) dX4_reckon_180
  · replace h := iteF c3 h
    refine lv_aload_n hx hb dX4_reckon_157 rfl (lv_at hl 0 rfl) ?_
    refine lv_iconst (v := 0) hx hb dX4_reckon_158 ic_0 ?_
    obtain ⟨r6, t7, et7, h⟩ := cal2_e h
    refine rCallI C hd (c_X4_sumN hE 8 _ _ _ _ et7) kX4_78 7 rfl rfl rfl rfl hl.1 rfl (Nat.le_of_ble_eq_true rfl) ⟨(Nat.le_of_ble_eq_true rfl), (Nat.le_of_ble_eq_true rfl)⟩ ⟨Nat.le_refl _, Nat.le_refl _⟩ dX4_reckon_159 (fun H locs hd => ?_)
    refine lv_goto (tgt := 166) hx hb dX4_reckon_162 (by decide) ?_
    obtain ⟨t8, et8, h⟩ := bnd_e h
    refine pX4_44 C hd et8 dX4_reckon_166 (fun H locs hd => ?_)
    refine lv_aload_n hx hb dX4_reckon_169 rfl (lv_at hl 0 rfl) ?_
    refine lv_dup hx hb dX4_reckon_170 rfl ?_
    refine gX4_15 C hd dX4_reckon_171 ?_
    refine lv_iconst (v := 1) hx hb dX4_reckon_174 ic_1 ?_
    refine lv_iadd hx hb dX4_reckon_175 ?_
    obtain ⟨t9, et9, h⟩ := bnd_e h
    refine pX4_15 C hd et9 dX4_reckon_176 (fun H locs hd => ?_)
    refine lv_iconst (v := 1) hx hb dX4_reckon_179 ic_1 ?_
    exact rZretS (w := wD g) C hr hd h (by decide) dX4_reckon_180
noncomputable def f_X4_reckon_122 (F : Nat) (σ : St) (x1 : Int32) (y0 : Int32) : Option (Int32 × St) :=
  bnd (ss σ 29 y0) (fun t1 => if inb x1 10 = true then if (argT x1.toNatClampNeg) ≤ 1 then (f_X4_reckon_144 F t1 x1 0) else (cal2 (f_X4_sumN F 8 t1 0) (fun r4 t5 => f_X4_reckon_144 F t5 x1 r4)) else none)
set_option maxRecDepth 100000 in
set_option maxHeartbeats 4000000 in
theorem w_X4_reckon_122 {F : Nat} {r' : Int32} {σ' : St}  (C : Cx g p s m args meth c cX4_reckon 2 RX4) (hr : meth.sig.returnType = some .boolean) :
    (∀ (σ : St) (x1 : Int32) (y0 : Int32), f_X4_reckon_122 F σ x1 y0 = some (r', σ') → ∀ (H : Heap) (locs : List Loc) (ls : Array Slot), Dy g (wD g σ ++ X) s H locs → lv_has ls 2 [(0, .ref (ga g 7)), (1, .int x1)] → W p l e (rmD 25) s m args below meth c H locs 0 0 (QI g below args s (wD g σ' ++ X) r') (F0 m 122 ls [.int y0, .ref (ga g 7)])) := by
  have hx := C.1
  have hb := C.2.1
  have hE := C.2.2.2.2.2.2.2.2
  intro σ x1 y0 h H locs ls hd hl
  rw [f_X4_reckon_122] at h
  obtain ⟨t1, et1, h⟩ := bnd_e h
  refine pX4_38 C hd et1 dX4_reckon_122 (fun H locs hd => ?_)
  refine lv_aload_n hx hb dX4_reckon_125 rfl (lv_at hl 0 rfl) ?_
  obtain ⟨aA, hA1, hA2⟩ := argZ C
  refine rArgGet (host := "RestoreDesk") C hd hA1 (mT 624 (by decide +kernel)) dX4_reckon_126 ?_
  refine lv_iload_n hx hb dX4_reckon_129 rfl (lv_at hl 1 rfl) ?_
  obtain ⟨n2, h⟩ := chk h
  refine rArgLd C hd hA2 (inb_i n2) dX4_reckon_130 ?_
  refine lv_iconst (v := 1) hx hb dX4_reckon_131 ic_1 ?_
  refine lv_icmp_le (tgt := 143) hx hb dX4_reckon_132 (by decide) (fun c3 => ?_) (fun c3 => ?_)
  · replace h := iteT c3 h
    refine lv_iconst (v := 0) hx hb dX4_reckon_143 ic_0 ?_
    exact w_X4_reckon_144 C hr t1 x1 0 h _ _ _ hd (lv_sub hl [0, 1] rfl)
  · replace h := iteF c3 h
    refine lv_aload_n hx hb dX4_reckon_135 rfl (lv_at hl 0 rfl) ?_
    refine lv_iconst (v := 0) hx hb dX4_reckon_136 ic_0 ?_
    obtain ⟨r4, t5, et5, h⟩ := cal2_e h
    refine rCallI C hd (c_X4_sumN hE 8 _ _ _ _ et5) kX4_78 7 rfl rfl rfl rfl hl.1 rfl (Nat.le_of_ble_eq_true rfl) ⟨(Nat.le_of_ble_eq_true rfl), (Nat.le_of_ble_eq_true rfl)⟩ ⟨Nat.le_refl _, Nat.le_refl _⟩ dX4_reckon_137 (fun H locs hd => ?_)
    refine lv_goto (tgt := 144) hx hb dX4_reckon_140 (by decide) ?_
    exact w_X4_reckon_144 C hr t5 x1 r4 h _ _ _ hd (lv_sub hl [0, 1] rfl)
noncomputable def f_X4_reckon_93 (F : Nat) (σ : St) (x1 : Int32) (y0 : Int32) (y1 : Int32) : Option (Int32 × St) :=
  if inb y1 6 = true then bnd (sr σ 32 y1.toNatClampNeg y0) (fun t2 => bnd (ss t2 26 ((t2.1 26) + 1)) (fun t3 => if inb x1 10 = true then if (argT x1.toNatClampNeg) ≤ 0 then (f_X4_reckon_122 F t3 x1 0) else (cal2 (f_X4_sumN F 8 t3 0) (fun r6 t7 => f_X4_reckon_122 F t7 x1 r6)) else none)) else none
set_option maxRecDepth 100000 in
set_option maxHeartbeats 4000000 in
theorem w_X4_reckon_93 {F : Nat} {r' : Int32} {σ' : St}  (C : Cx g p s m args meth c cX4_reckon 2 RX4) (hr : meth.sig.returnType = some .boolean) :
    (∀ (σ : St) (x1 : Int32) (y0 : Int32) (y1 : Int32), f_X4_reckon_93 F σ x1 y0 y1 = some (r', σ') → ∀ (H : Heap) (locs : List Loc) (ls : Array Slot), Dy g (wD g σ ++ X) s H locs → lv_has ls 2 [(0, .ref (ga g 7)), (1, .int x1)] → W p l e (rmD 25) s m args below meth c H locs 0 0 (QI g below args s (wD g σ' ++ X) r') (F0 m 93 ls [.int y0, .int y1, .ref (ga g 32)])) := by
  have hx := C.1
  have hb := C.2.1
  have hE := C.2.2.2.2.2.2.2.2
  intro σ x1 y0 y1 h H locs ls hd hl
  rw [f_X4_reckon_93] at h
  obtain ⟨n1, h⟩ := chk h
  obtain ⟨t2, et2, h⟩ := bnd_e h
  refine st_wD_32 C hd (inb_i n1) et2 dX4_reckon_93 (fun H locs hd => ?_)
  refine lv_aload_n hx hb dX4_reckon_94 rfl (lv_at hl 0 rfl) ?_
  refine lv_dup hx hb dX4_reckon_95 rfl ?_
  refine gX4_15 C hd dX4_reckon_96 ?_
  refine lv_iconst (v := 1) hx hb dX4_reckon_99 ic_1 ?_
  refine lv_iadd hx hb dX4_reckon_100 ?_
  obtain ⟨t3, et3, h⟩ := bnd_e h
  refine pX4_15 C hd et3 dX4_reckon_101 (fun H locs hd => ?_)
  refine lv_aload_n hx hb dX4_reckon_104 rfl (lv_at hl 0 rfl) ?_
  obtain ⟨aA, hA1, hA2⟩ := argZ C
  refine rArgGet (host := "RestoreDesk") C hd hA1 (mT 624 (by decide +kernel)) dX4_reckon_105 ?_
  refine lv_iload_n hx hb dX4_reckon_108 rfl (lv_at hl 1 rfl) ?_
  obtain ⟨n4, h⟩ := chk h
  refine rArgLd C hd hA2 (inb_i n4) dX4_reckon_109 ?_
  refine lv_if_le (tgt := 121) hx hb dX4_reckon_110 (by decide) (fun c5 => ?_) (fun c5 => ?_)
  · replace h := iteT c5 h
    refine lv_iconst (v := 0) hx hb dX4_reckon_121 ic_0 ?_
    exact w_X4_reckon_122 C hr t3 x1 0 h _ _ _ hd (lv_sub hl [0, 1] rfl)
  · replace h := iteF c5 h
    refine lv_aload_n hx hb dX4_reckon_113 rfl (lv_at hl 0 rfl) ?_
    refine lv_iconst (v := 0) hx hb dX4_reckon_114 ic_0 ?_
    obtain ⟨r6, t7, et7, h⟩ := cal2_e h
    refine rCallI C hd (c_X4_sumN hE 8 _ _ _ _ et7) kX4_78 7 rfl rfl rfl rfl hl.1 rfl (Nat.le_of_ble_eq_true rfl) ⟨(Nat.le_of_ble_eq_true rfl), (Nat.le_of_ble_eq_true rfl)⟩ ⟨Nat.le_refl _, Nat.le_refl _⟩ dX4_reckon_115 (fun H locs hd => ?_)
    refine lv_goto (tgt := 122) hx hb dX4_reckon_118 (by decide) ?_
    exact w_X4_reckon_122 C hr t7 x1 r6 h _ _ _ hd (lv_sub hl [0, 1] rfl)
noncomputable def f_X4_reckon_92 (F : Nat) (σ : St) (x1 : Int32) (y0 : Int32) : Option (Int32 × St) :=
  f_X4_reckon_93 F σ x1 0 y0
set_option maxRecDepth 100000 in
set_option maxHeartbeats 4000000 in
theorem w_X4_reckon_92 {F : Nat} {r' : Int32} {σ' : St}  (C : Cx g p s m args meth c cX4_reckon 2 RX4) (hr : meth.sig.returnType = some .boolean) :
    (∀ (σ : St) (x1 : Int32) (y0 : Int32), f_X4_reckon_92 F σ x1 y0 = some (r', σ') → ∀ (H : Heap) (locs : List Loc) (ls : Array Slot), Dy g (wD g σ ++ X) s H locs → lv_has ls 2 [(0, .ref (ga g 7)), (1, .int x1)] → W p l e (rmD 25) s m args below meth c H locs 0 0 (QI g below args s (wD g σ' ++ X) r') (F0 m 92 ls [.int y0, .ref (ga g 32)])) := by
  have hx := C.1
  have hb := C.2.1
  have hE := C.2.2.2.2.2.2.2.2
  intro σ x1 y0 h H locs ls hd hl
  rw [f_X4_reckon_92] at h
  refine lv_iconst (v := 0) hx hb dX4_reckon_92 ic_0 ?_
  exact w_X4_reckon_93 C hr σ x1 0 y0 h _ _ _ hd (lv_sub hl [0, 1] rfl)
noncomputable def f_X4_reckon_56 (F : Nat) (σ : St) (x1 : Int32) (y0 : Int32) (y1 : Int32) : Option (Int32 × St) :=
  if inb y1 6 = true then bnd (sr σ 32 y1.toNatClampNeg y0) (fun t2 => if (t2.1 27) ≤ 1 then (f_X4_reckon_92 F t2 x1 1) else (if 3 < (t2.1 27) then (f_X4_reckon_92 F t2 x1 1) else (if inb ((t2.1 27) - 2) 3 = true then f_X4_reckon_93 F t2 x1 (t2.2.1 30 ((t2.1 27) - 2).toNatClampNeg) 1 else none))) else none
set_option maxRecDepth 100000 in
set_option maxHeartbeats 4000000 in
theorem w_X4_reckon_56 {F : Nat} {r' : Int32} {σ' : St}  (C : Cx g p s m args meth c cX4_reckon 2 RX4) (hr : meth.sig.returnType = some .boolean) :
    (∀ (σ : St) (x1 : Int32) (y0 : Int32) (y1 : Int32), f_X4_reckon_56 F σ x1 y0 y1 = some (r', σ') → ∀ (H : Heap) (locs : List Loc) (ls : Array Slot), Dy g (wD g σ ++ X) s H locs → lv_has ls 2 [(0, .ref (ga g 7)), (1, .int x1)] → W p l e (rmD 25) s m args below meth c H locs 0 0 (QI g below args s (wD g σ' ++ X) r') (F0 m 56 ls [.int y0, .int y1, .ref (ga g 32)])) := by
  have hx := C.1
  have hb := C.2.1
  have hE := C.2.2.2.2.2.2.2.2
  intro σ x1 y0 y1 h H locs ls hd hl
  rw [f_X4_reckon_56] at h
  obtain ⟨n1, h⟩ := chk h
  obtain ⟨t2, et2, h⟩ := bnd_e h
  refine st_wD_32 C hd (inb_i n1) et2 dX4_reckon_56 (fun H locs hd => ?_)
  refine lv_aload_n hx hb dX4_reckon_57 rfl (lv_at hl 0 rfl) ?_
  refine gX4_32 C hd dX4_reckon_58 ?_
  refine lv_iconst (v := 1) hx hb dX4_reckon_61 ic_1 ?_
  refine lv_aload_n hx hb dX4_reckon_62 rfl (lv_at hl 0 rfl) ?_
  refine gX4_19 C hd dX4_reckon_63 ?_
  refine lv_iconst (v := 1) hx hb dX4_reckon_66 ic_1 ?_
  refine lv_icmp_le (tgt := 92) hx hb dX4_reckon_67 (by decide) (fun c3 => ?_) (fun c3 => ?_)
  · replace h := iteT c3 h
    exact w_X4_reckon_92 C hr t2 x1 1 h _ _ _ hd (lv_sub hl [0, 1] rfl)
  · replace h := iteF c3 h
    refine lv_aload_n hx hb dX4_reckon_70 rfl (lv_at hl 0 rfl) ?_
    refine gX4_19 C hd dX4_reckon_71 ?_
    refine lv_iconst (v := 3) hx hb dX4_reckon_74 ic_3 ?_
    refine lv_icmp_gt (tgt := 92) hx hb dX4_reckon_75 (by decide) (fun c4 => ?_) (fun c4 => ?_)
    · replace h := iteT c4 h
      exact w_X4_reckon_92 C hr t2 x1 1 h _ _ _ hd (lv_sub hl [0, 1] rfl)
    · replace h := iteF c4 h
      refine lv_aload_n hx hb dX4_reckon_78 rfl (lv_at hl 0 rfl) ?_
      refine gX4_26 C hd dX4_reckon_79 ?_
      refine lv_aload_n hx hb dX4_reckon_82 rfl (lv_at hl 0 rfl) ?_
      refine gX4_19 C hd dX4_reckon_83 ?_
      refine lv_iconst (v := 2) hx hb dX4_reckon_86 ic_2 ?_
      refine lv_isub hx hb dX4_reckon_87 ?_
      obtain ⟨n5, h⟩ := chk h
      refine ld_wD_30 C hd (inb_i n5) dX4_reckon_88 ?_
      refine lv_goto (tgt := 93) hx hb dX4_reckon_89 (by decide) ?_
      exact w_X4_reckon_93 C hr t2 x1 (t2.2.1 30 ((t2.1 27) - 2).toNatClampNeg) 1 h _ _ _ hd (lv_sub hl [0, 1] rfl)
noncomputable def f_X4_reckon_55 (F : Nat) (σ : St) (x1 : Int32) (y0 : Int32) : Option (Int32 × St) :=
  f_X4_reckon_56 F σ x1 0 y0
set_option maxRecDepth 100000 in
set_option maxHeartbeats 4000000 in
theorem w_X4_reckon_55 {F : Nat} {r' : Int32} {σ' : St}  (C : Cx g p s m args meth c cX4_reckon 2 RX4) (hr : meth.sig.returnType = some .boolean) :
    (∀ (σ : St) (x1 : Int32) (y0 : Int32), f_X4_reckon_55 F σ x1 y0 = some (r', σ') → ∀ (H : Heap) (locs : List Loc) (ls : Array Slot), Dy g (wD g σ ++ X) s H locs → lv_has ls 2 [(0, .ref (ga g 7)), (1, .int x1)] → W p l e (rmD 25) s m args below meth c H locs 0 0 (QI g below args s (wD g σ' ++ X) r') (F0 m 55 ls [.int y0, .ref (ga g 32)])) := by
  have hx := C.1
  have hb := C.2.1
  have hE := C.2.2.2.2.2.2.2.2
  intro σ x1 y0 h H locs ls hd hl
  rw [f_X4_reckon_55] at h
  refine lv_iconst (v := 0) hx hb dX4_reckon_55 ic_0 ?_
  exact w_X4_reckon_56 C hr σ x1 0 y0 h _ _ _ hd (lv_sub hl [0, 1] rfl)
noncomputable def f_X4_reckon (F : Nat) (σ : St) : Option (Int32 × St) :=
  bnd ((σ.1 28) - 2) (fun v1 => if v1 < 0 then (some (0, σ)) else (if v1 < 10 then (if (σ.1 27) ≤ 0 then (f_X4_reckon_55 F σ v1 0) else (if 3 < (σ.1 27) then (f_X4_reckon_55 F σ v1 0) else (if inb ((σ.1 27) - 1) 3 = true then f_X4_reckon_56 F σ v1 (σ.2.1 30 ((σ.1 27) - 1).toNatClampNeg) 0 else none))) else (some (0, σ))))
set_option maxRecDepth 100000 in
set_option maxHeartbeats 4000000 in
theorem c_X4_reckon {l : Launch} {g : Gp} {X : va_W} (hE : E0 g) {F : Nat} {r' : Int32} {σ' : St} {σ : St} (h : f_X4_reckon F σ = some (r', σ')) : Ci l g yX4_reckon cX4_reckon 2 (some .boolean) 25 [.ref (ga g 7)] (wD g σ ++ X) r' (wD g σ' ++ X) := by
  refine rHead hE (by decide +kernel) (Nat.le_of_ble_eq_true rfl) (fun p e s m below meth c C hr _ hd ls hl => ?_)
  have hx := C.1
  have hb := C.2.1
  have hl : lv_has ls 2 [(0, .ref (ga g 7))] := hl
  generalize ([.ref (ga g 7)] : List Value).toArray = args at C ⊢
  have C : Cx g p s m args meth c cX4_reckon 2 RX4 := C
  rw [f_X4_reckon] at h
  refine lv_aload_n hx hb dX4_reckon_0 rfl (lv_at hl 0 rfl) ?_
  refine gX4_35 C hd dX4_reckon_1 ?_
  refine lv_iconst (v := 2) hx hb dX4_reckon_4 ic_2 ?_
  refine lv_isub hx hb dX4_reckon_5 ?_
  obtain ⟨v1, ev1, h⟩ := bnd_e h
  refine rTop ev1 ?_
  refine lv_istore_n (lv' := [(1, .int v1), (0, .ref (ga g 7))]) hx hb dX4_reckon_6 rfl hl (Nat.le_of_ble_eq_true rfl) rfl (fun ls hl => ?_)
  refine lv_iload_n hx hb dX4_reckon_7 rfl (lv_at hl 0 rfl) ?_
  refine lv_if_lt (tgt := 19) hx hb dX4_reckon_8 (by decide) (fun c2 => ?_) (fun c2 => ?_)
  · replace h := iteT c2 h
    refine lv_iconst (v := 0) hx hb dX4_reckon_19 ic_0 ?_
    exact rZretS (w := wD g) C hr hd h (by decide) dX4_reckon_20
  · replace h := iteF c2 h
    refine lv_iload_n hx hb dX4_reckon_11 rfl (lv_at hl 0 rfl) ?_
    obtain ⟨aA, hA1, hA2⟩ := argZ C
    refine rArgGet (host := "RestoreDesk") C hd hA1 (mT 624 (by decide +kernel)) dX4_reckon_12 ?_
    refine rArgLen C hd hA2 dX4_reckon_15 ?_
    refine lv_icmp_lt (tgt := 21) hx hb dX4_reckon_16 (by decide) (fun c3 => ?_) (fun c3 => ?_)
    · replace h := iteT c3 h
      refine lv_aload_n hx hb dX4_reckon_21 rfl (lv_at hl 1 rfl) ?_
      refine gX4_32 C hd dX4_reckon_22 ?_
      refine lv_iconst (v := 0) hx hb dX4_reckon_25 ic_0 ?_
      refine lv_aload_n hx hb dX4_reckon_26 rfl (lv_at hl 1 rfl) ?_
      refine gX4_19 C hd dX4_reckon_27 ?_
      refine lv_if_le (tgt := 55) hx hb dX4_reckon_30 (by decide) (fun c4 => ?_) (fun c4 => ?_)
      · replace h := iteT c4 h
        exact w_X4_reckon_55 C hr σ v1 0 h _ _ _ hd (lv_sub hl [1, 0] rfl)
      · replace h := iteF c4 h
        refine lv_aload_n hx hb dX4_reckon_33 rfl (lv_at hl 1 rfl) ?_
        refine gX4_19 C hd dX4_reckon_34 ?_
        refine lv_iconst (v := 3) hx hb dX4_reckon_37 ic_3 ?_
        refine lv_icmp_gt (tgt := 55) hx hb dX4_reckon_38 (by decide) (fun c5 => ?_) (fun c5 => ?_)
        · replace h := iteT c5 h
          exact w_X4_reckon_55 C hr σ v1 0 h _ _ _ hd (lv_sub hl [1, 0] rfl)
        · replace h := iteF c5 h
          refine lv_aload_n hx hb dX4_reckon_41 rfl (lv_at hl 1 rfl) ?_
          refine gX4_26 C hd dX4_reckon_42 ?_
          refine lv_aload_n hx hb dX4_reckon_45 rfl (lv_at hl 1 rfl) ?_
          refine gX4_19 C hd dX4_reckon_46 ?_
          refine lv_iconst (v := 1) hx hb dX4_reckon_49 ic_1 ?_
          refine lv_isub hx hb dX4_reckon_50 ?_
          obtain ⟨n6, h⟩ := chk h
          refine ld_wD_30 C hd (inb_i n6) dX4_reckon_51 ?_
          refine lv_goto (tgt := 56) hx hb dX4_reckon_52 (by decide) ?_
          exact w_X4_reckon_56 C hr σ v1 (σ.2.1 30 ((σ.1 27) - 1).toNatClampNeg) 0 h _ _ _ hd (lv_sub hl [1, 0] rfl)
    · replace h := iteF c3 h
      refine lv_iconst (v := 0) hx hb dX4_reckon_19 ic_0 ?_
      exact rZretS (w := wD g) C hr hd h (by decide) dX4_reckon_20
noncomputable def f_X4_next_62 (F : Nat) (k_2 : St → Int32 → Int32 → Option (Int32 × St)) (σ : St) (x1 : Int32) (x2 : Int32) : Option (Int32 × St) :=
  bnd (x2 + 1) (fun v1 => k_2 σ x1 v1)
set_option maxRecDepth 100000 in
set_option maxHeartbeats 4000000 in
theorem w_X4_next_62 {F : Nat} {r' : Int32} {σ' : St}  (C : Cx g p s m args meth c cX4_next 3 RX4) (hr : meth.sig.returnType = some .boolean)
    {k_2 : St → Int32 → Int32 → Option (Int32 × St)} (hk_2 : (∀ (σ : St) (x1 : Int32) (x2 : Int32), k_2 σ x1 x2 = some (r', σ') → ∀ (H : Heap) (locs : List Loc) (ls : Array Slot), Dy g (wD g σ ++ X) s H locs → lv_has ls 3 [(0, .ref (ga g 7)), (1, .int x1), (2, .int x2)] → W p l e (rmD 26) s m args below meth c H locs 0 0 (QI g below args s (wD g σ' ++ X) r') (F0 m 2 ls []))) :
    (∀ (σ : St) (x1 : Int32) (x2 : Int32), f_X4_next_62 F k_2 σ x1 x2 = some (r', σ') → ∀ (H : Heap) (locs : List Loc) (ls : Array Slot), Dy g (wD g σ ++ X) s H locs → lv_has ls 3 [(0, .ref (ga g 7)), (1, .int x1), (2, .int x2)] → W p l e (rmD 26) s m args below meth c H locs 0 0 (QI g below args s (wD g σ' ++ X) r') (F0 m 62 ls [])) := by
  have hx := C.1
  have hb := C.2.1
  have hE := C.2.2.2.2.2.2.2.2
  intro σ x1 x2 h H locs ls hd hl
  rw [f_X4_next_62] at h
  obtain ⟨v1, ev1, h⟩ := bnd_e h
  refine lv_iinc (v := v1) (lv' := [(2, .int v1), (0, .ref (ga g 7)), (1, .int x1)]) hx hb dX4_next_62 hl (k := 2) rfl ((ii_1 _).trans ev1.symm) (Nat.le_of_ble_eq_true rfl) rfl (fun ls hl => ?_)
  refine lv_goto (tgt := 2) hx hb dX4_next_65 (by decide) ?_
  exact hk_2 σ x1 v1 h _ _ _ hd (lv_sub hl [1, 2, 0] rfl)
noncomputable def f_X4_next_2 (F : Nat) : Nat → St → Int32 → Int32 → Option (Int32 × St)
  | 0, _, _, _ => none
  | n + 1, σ, x1, x2 => if 1000000 ≤ x2 then (some (0, σ)) else (cal (f_X6_kindAt F σ (σ.1 26)) (fun r2 => bnd (ss σ 28 r2) (fun t3 => if (t3.1 28) = 12 then (cal (f_X4_enter F t3 x1) (fun t10 => f_X4_next_62 F (f_X4_next_2 F n) t10 x1 x2)) else (if (t3.1 28) = 13 then (cal (f_X4_turn F t3 x1) (fun t9 => f_X4_next_62 F (f_X4_next_2 F n) t9 x1 x2)) else (cal2 (f_X4_reckon F t3) (fun r6 t7 => if r6 = 0 ∨ r6 = 1 then some (r6, t7) else none))))))
set_option maxRecDepth 100000 in
set_option maxHeartbeats 4000000 in
theorem w_X4_next_2 {F : Nat} {r' : Int32} {σ' : St}  (C : Cx g p s m args meth c cX4_next 3 RX4) (hr : meth.sig.returnType = some .boolean) :
    (∀ (n : Nat) (σ : St) (x1 : Int32) (x2 : Int32), f_X4_next_2 F n σ x1 x2 = some (r', σ') → ∀ (H : Heap) (locs : List Loc) (ls : Array Slot), Dy g (wD g σ ++ X) s H locs → lv_has ls 3 [(0, .ref (ga g 7)), (1, .int x1), (2, .int x2)] → W p l e (rmD 26) s m args below meth c H locs 0 0 (QI g below args s (wD g σ' ++ X) r') (F0 m 2 ls [])) := by
  have hx := C.1
  have hb := C.2.1
  have hE := C.2.2.2.2.2.2.2.2
  intro n
  induction n with
  | zero =>
    intro σ x1 x2 h
    cases h
  | succ n ih =>
    intro σ x1 x2 h H locs ls hd hl
    rw [f_X4_next_2] at h
    refine lv_iload_n hx hb dX4_next_2 rfl (lv_at hl 2 rfl) ?_
    refine rLdc C (v := 1000000) (mT 605 (by decide +kernel)) dX4_next_3 ?_
    refine lv_icmp_ge (tgt := 68) hx hb dX4_next_5 (by decide) (fun c1 => ?_) (fun c1 => ?_)
    · replace h := iteT c1 h
      refine lv_iconst (v := 0) hx hb dX4_next_68 ic_0 ?_
      exact rZretS (w := wD g) C hr hd h (by decide) dX4_next_69
    · replace h := iteF c1 h
      refine lv_aload_n hx hb dX4_next_8 rfl (lv_at hl 0 rfl) ?_
      refine lv_aload_n hx hb dX4_next_9 rfl (lv_at hl 0 rfl) ?_
      refine gX4_9 C hd dX4_next_10 ?_
      refine lv_aload_n hx hb dX4_next_13 rfl (lv_at hl 0 rfl) ?_
      refine gX4_15 C hd dX4_next_14 ?_
      obtain ⟨r2, er2, h⟩ := cal_e h
      refine rCallI C hd (c_X6_kindAt hE er2) kX4_48 5 rfl rfl rfl rfl hl.1 rfl (Nat.le_of_ble_eq_true rfl) ⟨(Nat.le_of_ble_eq_true rfl), (Nat.le_of_ble_eq_true rfl)⟩ ⟨Nat.le_refl _, Nat.le_refl _⟩ dX4_next_17 (fun H locs hd => ?_)
      obtain ⟨t3, et3, h⟩ := bnd_e h
      refine pX4_35 C hd et3 dX4_next_20 (fun H locs hd => ?_)
      refine lv_aload_n hx hb dX4_next_23 rfl (lv_at hl 0 rfl) ?_
      refine gX4_35 C hd dX4_next_24 ?_
      refine lv_bipush (v := 12) hx hb dX4_next_27 bi_12 ?_
      refine lv_icmp_ne (tgt := 40) hx hb dX4_next_29 (by decide) (fun c4 => ?_) (fun c4 => ?_)
      · replace h := iteF c4 h
        refine lv_aload_n hx hb dX4_next_40 rfl (lv_at hl 0 rfl) ?_
        refine gX4_35 C hd dX4_next_41 ?_
        refine lv_bipush (v := 13) hx hb dX4_next_44 bi_13 ?_
        refine lv_icmp_ne (tgt := 57) hx hb dX4_next_46 (by decide) (fun c5 => ?_) (fun c5 => ?_)
        · replace h := iteF c5 h
          refine lv_aload_n hx hb dX4_next_57 rfl (lv_at hl 0 rfl) ?_
          obtain ⟨r6, t7, et7, h⟩ := cal2_e h
          refine rCallI C hd (c_X4_reckon hE et7) kX4_61 7 rfl rfl rfl rfl hl.1 rfl (Nat.le_of_ble_eq_true rfl) ⟨(Nat.le_of_ble_eq_true rfl), (Nat.le_of_ble_eq_true rfl)⟩ ⟨Nat.le_refl _, Nat.le_refl _⟩ dX4_next_58 (fun H locs hd => ?_)
          obtain ⟨n8, h⟩ := chk h
          exact rZretS (w := wD g) C hr hd h n8 dX4_next_61
        · replace h := iteT c5 h
          refine lv_aload_n hx hb dX4_next_49 rfl (lv_at hl 0 rfl) ?_
          refine lv_iload_n hx hb dX4_next_50 rfl (lv_at hl 1 rfl) ?_
          obtain ⟨t9, et9, h⟩ := cal_e h
          refine rCallV C hd (c_X4_turn hE et9) kX4_58 7 rfl rfl rfl rfl hl.1 rfl (Nat.le_of_ble_eq_true rfl) ⟨(Nat.le_of_ble_eq_true rfl), (Nat.le_of_ble_eq_true rfl)⟩ ⟨Nat.le_refl _, Nat.le_refl _⟩ dX4_next_51 (fun H locs hd => ?_)
          refine lv_goto (tgt := 62) hx hb dX4_next_54 (by decide) ?_
          exact w_X4_next_62 C hr ih t9 x1 x2 h _ _ _ hd (lv_sub hl [0, 1, 2] rfl)
      · replace h := iteT c4 h
        refine lv_aload_n hx hb dX4_next_32 rfl (lv_at hl 0 rfl) ?_
        refine lv_iload_n hx hb dX4_next_33 rfl (lv_at hl 1 rfl) ?_
        obtain ⟨t10, et10, h⟩ := cal_e h
        refine rCallV C hd (c_X4_enter hE et10) kX4_54 7 rfl rfl rfl rfl hl.1 rfl (Nat.le_of_ble_eq_true rfl) ⟨(Nat.le_of_ble_eq_true rfl), (Nat.le_of_ble_eq_true rfl)⟩ ⟨Nat.le_refl _, Nat.le_refl _⟩ dX4_next_34 (fun H locs hd => ?_)
        refine lv_goto (tgt := 62) hx hb dX4_next_37 (by decide) ?_
        exact w_X4_next_62 C hr ih t10 x1 x2 h _ _ _ hd (lv_sub hl [0, 1, 2] rfl)
noncomputable def f_X4_next (F : Nat) (σ : St) (x1 : Int32) : Option (Int32 × St) :=
  f_X4_next_2 F F σ x1 0
set_option maxRecDepth 100000 in
set_option maxHeartbeats 4000000 in
theorem c_X4_next {l : Launch} {g : Gp} {X : va_W} (hE : E0 g) {F : Nat} {r' : Int32} {σ' : St} {σ : St} {x1 : Int32} (h : f_X4_next F σ x1 = some (r', σ')) : Ci l g yX4_next cX4_next 3 (some .boolean) 26 [.ref (ga g 7), .int x1] (wD g σ ++ X) r' (wD g σ' ++ X) := by
  refine rHead hE (by decide +kernel) (Nat.le_of_ble_eq_true rfl) (fun p e s m below meth c C hr _ hd ls hl => ?_)
  have hx := C.1
  have hb := C.2.1
  have hl : lv_has ls 3 [(0, .ref (ga g 7)), (1, .int x1)] := hl
  generalize ([.ref (ga g 7), .int x1] : List Value).toArray = args at C ⊢
  have C : Cx g p s m args meth c cX4_next 3 RX4 := C
  rw [f_X4_next] at h
  refine lv_iconst (v := 0) hx hb dX4_next_0 ic_0 ?_
  refine lv_istore_n (lv' := [(2, .int 0), (0, .ref (ga g 7)), (1, .int x1)]) hx hb dX4_next_1 rfl hl (Nat.le_of_ble_eq_true rfl) rfl (fun ls hl => ?_)
  exact w_X4_next_2 C hr _ σ x1 0 h _ _ _ hd (lv_sub hl [1, 2, 0] rfl)
noncomputable def f_X4_rewind (F : Nat) (σ : St) (x1 : Int32) : Option St :=
  bnd (ss σ 26 x1) (fun t1 => bnd (ss t1 27 0) (fun t2 => some t2))
set_option maxRecDepth 100000 in
set_option maxHeartbeats 4000000 in
theorem c_X4_rewind {l : Launch} {g : Gp} {X : va_W} (hE : E0 g) {F : Nat} {σ' : St} {σ : St} {x1 : Int32} (h : f_X4_rewind F σ x1 = some σ') : Cv l g yX4_rewind cX4_rewind 2 0 [.ref (ga g 7), .int x1] (wD g σ ++ X) (wD g σ' ++ X) := by
  refine rHead hE (by decide +kernel) (Nat.le_of_ble_eq_true rfl) (fun p e s m below meth c C hr _ hd ls hl => ?_)
  have hx := C.1
  have hb := C.2.1
  have hl : lv_has ls 2 [(0, .ref (ga g 7)), (1, .int x1)] := hl
  generalize ([.ref (ga g 7), .int x1] : List Value).toArray = args at C ⊢
  have C : Cx g p s m args meth c cX4_rewind 2 RX4 := C
  rw [f_X4_rewind] at h
  refine lv_aload_n hx hb dX4_rewind_0 rfl (lv_at hl 0 rfl) ?_
  refine lv_iload_n hx hb dX4_rewind_1 rfl (lv_at hl 1 rfl) ?_
  obtain ⟨t1, et1, h⟩ := bnd_e h
  refine pX4_15 C hd et1 dX4_rewind_2 (fun H locs hd => ?_)
  refine lv_aload_n hx hb dX4_rewind_5 rfl (lv_at hl 0 rfl) ?_
  refine lv_iconst (v := 0) hx hb dX4_rewind_6 ic_0 ?_
  obtain ⟨t2, et2, h⟩ := bnd_e h
  refine pX4_19 C hd et2 dX4_rewind_7 (fun H locs hd => ?_)
  exact rVretS (w := wD g) C hr hd h dX4_rewind_10
end S
