def blT (g : Gp) (b : Nat → Nat) (σ : St) : va_W := [(b 5, .inr (7, [.int (σ.1 19), .ref (b 26), .ref (b 27), .ref (b 28)])), (b 26, .inl (gc g 1, 402, .inl (σ.2.1 26))), (b 27, .inl (gc g 1, 402, .inl (σ.2.1 27))), (b 28, .inl (gc g 1, 402, .inl (σ.2.1 28)))]
def blG (g : Gp) (b : Nat → Nat) (σ : St) : va_W := [(b 6, .inr (2, [.ref (b 5), .int (σ.1 20), .int (σ.1 21), .int (σ.1 22), .int (σ.1 23), .int (σ.1 24), .int (σ.1 25)]))]
def blR (g : Gp) (b : Nat → Nat) (σ : St) : va_W := [(b 7, .inr (5, [.ref (b 5), .int (σ.1 26), .int (σ.1 27), .ref (b 29), .ref (b 30), .ref (b 31), .ref (b 32), .int (σ.1 28), .int (σ.1 29), .int (σ.1 30), .int (σ.1 31)])), (b 29, .inl (gc g 1, 3, .inl (σ.2.1 29))), (b 30, .inl (gc g 1, 3, .inl (σ.2.1 30))), (b 31, .inl (gc g 1, 3, .inl (σ.2.1 31))), (b 32, .inl (gc g 1, 6, .inl (σ.2.1 32)))]
def blO (g : Gp) (b : Nat → Nat) (σ : St) : va_W := [(b 4, .inr (4, [.ref (b 1), .ref (b 2), .ref (b 3), .ref (b 25), .int (σ.1 11), .int (σ.1 12), .int (σ.1 13), .int (σ.1 14), .int (σ.1 15), .int (σ.1 16), .int (σ.1 17), .int (σ.1 18)])), (b 25, .inl (gc g 1, 8, .inl (σ.2.1 25)))]
def blB (g : Gp) (b : Nat → Nat) (σ : St) : va_W := [(b 8, .inr (0, [.ref (b 33), .int (σ.1 32), .int (σ.1 33), .int (σ.1 34)])), (b 33, .inl (gc g 0, 16, .inl (σ.2.1 33)))]
/-- the desk as it is made -/
def s0 : St := (fun k => ([0, 0, -1, 0, 4, 4, 1, 0, 0, 0, 0, -1, 1, -2, 0, -1, -1, -1, 1, 0, 0, 0, -1, 4, 4, 0, 0, 0, 30, 0, 0, 0, 0, 0, 0] : List Int32).getD k 0, fun r => if r = 11 then upd (fun _ => 0) 0 (-2) else fun _ => 0, fun _ _ => 0)
set_option maxRecDepth 100000 in
set_option maxHeartbeats 4000000 in
theorem c_X0_init {l : Launch} {g : Gp} {X : va_W} (hE : E0 g) {h0 : Nat} : Cn l g yX0_init cX0_init 1 1 6 270 [.ref h0] ([(h0, .inr (1, [.int 0, .int 0, .int 0, .null, .null, .null, .null, .null, .null]))] ++ X) (fun b => b 3 = h0) (fun b => (blC g b s0) ++ X) := by
  refine rHeadN hE (by decide +kernel) (Nat.le_of_ble_eq_true rfl) (fun p e s m below meth c C hr hmn hd ls hl => ?_)
  have hx := C.1
  have hb := C.2.1
  have hl : lv_has ls 1 [(0, .ref h0)] := hl
  generalize ([.ref h0] : List Value).toArray = args at C ⊢
  have C : Cx g p s m args meth c cX0_init 1 RX0 := C
  have hmn : meth.name = "<init>" := hmn
  refine lv_aload_n hx hb dX0_init_0 rfl (lv_at hl 0 rfl) ?_
  refine rObj C hl.1 (mT 88 (by decide +kernel)) (mT 29 (by decide +kernel)) (mT 30 (by decide +kernel)) dX0_init_1 ⟨(Nat.le_of_ble_eq_true rfl), (Nat.le_of_ble_eq_true rfl)⟩ ?_
  refine lv_aload_n hx hb dX0_init_4 rfl (lv_at hl 0 rfl) ?_
  refine lv_iconst (v := 0) hx hb dX0_init_5 (by decide) ?_
  refine rPutV (ws' := ([(h0, .inr (1, [.int 0, .int 0, .int 0, .null, .null, .null, .null, .null, .null]))] ++ X)) C hd 0 rfl rfl inX0 tyX0 tyX0_ok nmX0 0 (by decide) (mT 89 (by decide +kernel)) rfl rfl rfl (Nat.le_of_ble_eq_true rfl) rfl dX0_init_6 (fun H locs hd => ?_)
  refine lv_aload_n hx hb dX0_init_9 rfl (lv_at hl 0 rfl) ?_
  refine lv_iconst (v := 0) hx hb dX0_init_10 (by decide) ?_
  refine rPutV (ws' := ([(h0, .inr (1, [.int 0, .int 0, .int 0, .null, .null, .null, .null, .null, .null]))] ++ X)) C hd 0 rfl rfl inX0 tyX0 tyX0_ok nmX0 1 (by decide) (mT 91 (by decide +kernel)) rfl rfl rfl (Nat.le_of_ble_eq_true rfl) rfl dX0_init_11 (fun H locs hd => ?_)
  refine lv_aload_n hx hb dX0_init_14 rfl (lv_at hl 0 rfl) ?_
  refine lv_iconst (v := 0) hx hb dX0_init_15 (by decide) ?_
  refine rPutV (ws' := ([(h0, .inr (1, [.int 0, .int 0, .int 0, .null, .null, .null, .null, .null, .null]))] ++ X)) C hd 0 rfl rfl inX0 tyX0 tyX0_ok nmX0 2 (by decide) (mT 93 (by decide +kernel)) rfl rfl rfl (Nat.le_of_ble_eq_true rfl) rfl dX0_init_16 (fun H locs hd => ?_)
  refine lv_aload_n hx hb dX0_init_19 rfl (lv_at hl 0 rfl) ?_
  refine lv_bipush (v := 10) hx hb dX0_init_20 (by decide) ?_
  refine rNewa (atype := .int) (ty := .int) (t0 := 1) (N' := 10) (a0 := (10, .inl (fun _ => 0))) (A := [(h0, .inr (1, [.int 0, .int 0, .int 0, .null, .null, .null, .null, .null, .null]))]) C hd (mT 81 (by decide +kernel)) rfl rfl ra_int (fun _ => rfl) (by decide) (by decide) (Nat.le_of_ble_eq_true rfl) (Nat.le_of_ble_eq_true rfl) (Nat.le_of_ble_eq_true rfl) dX0_init_22 (fun q1 H hd => ?_)
  have hd : Dy g ([(h0, .inr (1, [.int 0, .int 0, .int 0, .null, .null, .null, .null, .null, .null])), (q1, .inl (gc g 1, 10, .inl (fun _ => 0)))] ++ X) s _ _ := hd
  refine rPutF (ws' := ([(h0, .inr (1, [.int 0, .int 0, .int 0, .ref q1, .null, .null, .null, .null, .null])), (q1, .inl (gc g 1, 10, .inl (fun _ => 0)))] ++ X)) C hmn hd 0 rfl rfl inX0 tyX0 tyX0_ok nmX0 3 (by decide) (mT 95 (by decide +kernel)) rfl rfl rfl rfl (Nat.le_of_ble_eq_true rfl) rfl dX0_init_24 (fun H locs hd => ?_)
  refine lv_aload_n hx hb dX0_init_27 rfl (lv_at hl 0 rfl) ?_
  refine lv_bipush (v := 10) hx hb dX0_init_28 (by decide) ?_
  refine rNewa (atype := .int) (ty := .int) (t0 := 1) (N' := 10) (a0 := (10, .inl (fun _ => 0))) (A := [(h0, .inr (1, [.int 0, .int 0, .int 0, .ref q1, .null, .null, .null, .null, .null])), (q1, .inl (gc g 1, 10, .inl (fun _ => 0)))]) C hd (mT 81 (by decide +kernel)) rfl rfl ra_int (fun _ => rfl) (by decide) (by decide) (Nat.le_of_ble_eq_true rfl) (Nat.le_of_ble_eq_true rfl) (Nat.le_of_ble_eq_true rfl) dX0_init_30 (fun q2 H hd => ?_)
  have hd : Dy g ([(h0, .inr (1, [.int 0, .int 0, .int 0, .ref q1, .null, .null, .null, .null, .null])), (q1, .inl (gc g 1, 10, .inl (fun _ => 0))), (q2, .inl (gc g 1, 10, .inl (fun _ => 0)))] ++ X) s _ _ := hd
  refine rPutF (ws' := ([(h0, .inr (1, [.int 0, .int 0, .int 0, .ref q1, .ref q2, .null, .null, .null, .null])), (q1, .inl (gc g 1, 10, .inl (fun _ => 0))), (q2, .inl (gc g 1, 10, .inl (fun _ => 0)))] ++ X)) C hmn hd 0 rfl rfl inX0 tyX0 tyX0_ok nmX0 4 (by decide) (mT 96 (by decide +kernel)) rfl rfl rfl rfl (Nat.le_of_ble_eq_true rfl) rfl dX0_init_32 (fun H locs hd => ?_)
  refine lv_aload_n hx hb dX0_init_35 rfl (lv_at hl 0 rfl) ?_
  refine lv_bipush (v := 10) hx hb dX0_init_36 (by decide) ?_
  refine rNewa (atype := .int) (ty := .int) (t0 := 1) (N' := 10) (a0 := (10, .inl (fun _ => 0))) (A := [(h0, .inr (1, [.int 0, .int 0, .int 0, .ref q1, .ref q2, .null, .null, .null, .null])), (q1, .inl (gc g 1, 10, .inl (fun _ => 0))), (q2, .inl (gc g 1, 10, .inl (fun _ => 0)))]) C hd (mT 81 (by decide +kernel)) rfl rfl ra_int (fun _ => rfl) (by decide) (by decide) (Nat.le_of_ble_eq_true rfl) (Nat.le_of_ble_eq_true rfl) (Nat.le_of_ble_eq_true rfl) dX0_init_38 (fun q3 H hd => ?_)
  have hd : Dy g ([(h0, .inr (1, [.int 0, .int 0, .int 0, .ref q1, .ref q2, .null, .null, .null, .null])), (q1, .inl (gc g 1, 10, .inl (fun _ => 0))), (q2, .inl (gc g 1, 10, .inl (fun _ => 0))), (q3, .inl (gc g 1, 10, .inl (fun _ => 0)))] ++ X) s _ _ := hd
  refine rPutF (ws' := ([(h0, .inr (1, [.int 0, .int 0, .int 0, .ref q1, .ref q2, .ref q3, .null, .null, .null])), (q1, .inl (gc g 1, 10, .inl (fun _ => 0))), (q2, .inl (gc g 1, 10, .inl (fun _ => 0))), (q3, .inl (gc g 1, 10, .inl (fun _ => 0)))] ++ X)) C hmn hd 0 rfl rfl inX0 tyX0 tyX0_ok nmX0 5 (by decide) (mT 97 (by decide +kernel)) rfl rfl rfl rfl (Nat.le_of_ble_eq_true rfl) rfl dX0_init_40 (fun H locs hd => ?_)
  refine lv_aload_n hx hb dX0_init_43 rfl (lv_at hl 0 rfl) ?_
  refine lv_bipush (v := 80) hx hb dX0_init_44 (by decide) ?_
  refine rNewa (atype := .int) (ty := .int) (t0 := 1) (N' := 80) (a0 := (80, .inl (fun _ => 0))) (A := [(h0, .inr (1, [.int 0, .int 0, .int 0, .ref q1, .ref q2, .ref q3, .null, .null, .null])), (q1, .inl (gc g 1, 10, .inl (fun _ => 0))), (q2, .inl (gc g 1, 10, .inl (fun _ => 0))), (q3, .inl (gc g 1, 10, .inl (fun _ => 0)))]) C hd (mT 81 (by decide +kernel)) rfl rfl ra_int (fun _ => rfl) (by decide) (by decide) (Nat.le_of_ble_eq_true rfl) (Nat.le_of_ble_eq_true rfl) (Nat.le_of_ble_eq_true rfl) dX0_init_46 (fun q4 H hd => ?_)
  have hd : Dy g ([(h0, .inr (1, [.int 0, .int 0, .int 0, .ref q1, .ref q2, .ref q3, .null, .null, .null])), (q1, .inl (gc g 1, 10, .inl (fun _ => 0))), (q2, .inl (gc g 1, 10, .inl (fun _ => 0))), (q3, .inl (gc g 1, 10, .inl (fun _ => 0))), (q4, .inl (gc g 1, 80, .inl (fun _ => 0)))] ++ X) s _ _ := hd
  refine rPutF (ws' := ([(h0, .inr (1, [.int 0, .int 0, .int 0, .ref q1, .ref q2, .ref q3, .ref q4, .null, .null])), (q1, .inl (gc g 1, 10, .inl (fun _ => 0))), (q2, .inl (gc g 1, 10, .inl (fun _ => 0))), (q3, .inl (gc g 1, 10, .inl (fun _ => 0))), (q4, .inl (gc g 1, 80, .inl (fun _ => 0)))] ++ X)) C hmn hd 0 rfl rfl inX0 tyX0 tyX0_ok nmX0 6 (by decide) (mT 98 (by decide +kernel)) rfl rfl rfl rfl (Nat.le_of_ble_eq_true rfl) rfl dX0_init_48 (fun H locs hd => ?_)
  refine lv_aload_n hx hb dX0_init_51 rfl (lv_at hl 0 rfl) ?_
  refine lv_bipush (v := 80) hx hb dX0_init_52 (by decide) ?_
  refine rNewa (atype := .int) (ty := .int) (t0 := 1) (N' := 80) (a0 := (80, .inl (fun _ => 0))) (A := [(h0, .inr (1, [.int 0, .int 0, .int 0, .ref q1, .ref q2, .ref q3, .ref q4, .null, .null])), (q1, .inl (gc g 1, 10, .inl (fun _ => 0))), (q2, .inl (gc g 1, 10, .inl (fun _ => 0))), (q3, .inl (gc g 1, 10, .inl (fun _ => 0))), (q4, .inl (gc g 1, 80, .inl (fun _ => 0)))]) C hd (mT 81 (by decide +kernel)) rfl rfl ra_int (fun _ => rfl) (by decide) (by decide) (Nat.le_of_ble_eq_true rfl) (Nat.le_of_ble_eq_true rfl) (Nat.le_of_ble_eq_true rfl) dX0_init_54 (fun q5 H hd => ?_)
  have hd : Dy g ([(h0, .inr (1, [.int 0, .int 0, .int 0, .ref q1, .ref q2, .ref q3, .ref q4, .null, .null])), (q1, .inl (gc g 1, 10, .inl (fun _ => 0))), (q2, .inl (gc g 1, 10, .inl (fun _ => 0))), (q3, .inl (gc g 1, 10, .inl (fun _ => 0))), (q4, .inl (gc g 1, 80, .inl (fun _ => 0))), (q5, .inl (gc g 1, 80, .inl (fun _ => 0)))] ++ X) s _ _ := hd
  refine rPutF (ws' := ([(h0, .inr (1, [.int 0, .int 0, .int 0, .ref q1, .ref q2, .ref q3, .ref q4, .ref q5, .null])), (q1, .inl (gc g 1, 10, .inl (fun _ => 0))), (q2, .inl (gc g 1, 10, .inl (fun _ => 0))), (q3, .inl (gc g 1, 10, .inl (fun _ => 0))), (q4, .inl (gc g 1, 80, .inl (fun _ => 0))), (q5, .inl (gc g 1, 80, .inl (fun _ => 0)))] ++ X)) C hmn hd 0 rfl rfl inX0 tyX0 tyX0_ok nmX0 7 (by decide) (mT 99 (by decide +kernel)) rfl rfl rfl rfl (Nat.le_of_ble_eq_true rfl) rfl dX0_init_56 (fun H locs hd => ?_)
  refine lv_aload_n hx hb dX0_init_59 rfl (lv_at hl 0 rfl) ?_
  refine lv_bipush (v := 80) hx hb dX0_init_60 (by decide) ?_
  refine rNewa (atype := .int) (ty := .int) (t0 := 1) (N' := 80) (a0 := (80, .inl (fun _ => 0))) (A := [(h0, .inr (1, [.int 0, .int 0, .int 0, .ref q1, .ref q2, .ref q3, .ref q4, .ref q5, .null])), (q1, .inl (gc g 1, 10, .inl (fun _ => 0))), (q2, .inl (gc g 1, 10, .inl (fun _ => 0))), (q3, .inl (gc g 1, 10, .inl (fun _ => 0))), (q4, .inl (gc g 1, 80, .inl (fun _ => 0))), (q5, .inl (gc g 1, 80, .inl (fun _ => 0)))]) C hd (mT 81 (by decide +kernel)) rfl rfl ra_int (fun _ => rfl) (by decide) (by decide) (Nat.le_of_ble_eq_true rfl) (Nat.le_of_ble_eq_true rfl) (Nat.le_of_ble_eq_true rfl) dX0_init_62 (fun q6 H hd => ?_)
  have hd : Dy g ([(h0, .inr (1, [.int 0, .int 0, .int 0, .ref q1, .ref q2, .ref q3, .ref q4, .ref q5, .null])), (q1, .inl (gc g 1, 10, .inl (fun _ => 0))), (q2, .inl (gc g 1, 10, .inl (fun _ => 0))), (q3, .inl (gc g 1, 10, .inl (fun _ => 0))), (q4, .inl (gc g 1, 80, .inl (fun _ => 0))), (q5, .inl (gc g 1, 80, .inl (fun _ => 0))), (q6, .inl (gc g 1, 80, .inl (fun _ => 0)))] ++ X) s _ _ := hd
  refine rPutF (ws' := ([(h0, .inr (1, [.int 0, .int 0, .int 0, .ref q1, .ref q2, .ref q3, .ref q4, .ref q5, .ref q6])), (q1, .inl (gc g 1, 10, .inl (fun _ => 0))), (q2, .inl (gc g 1, 10, .inl (fun _ => 0))), (q3, .inl (gc g 1, 10, .inl (fun _ => 0))), (q4, .inl (gc g 1, 80, .inl (fun _ => 0))), (q5, .inl (gc g 1, 80, .inl (fun _ => 0))), (q6, .inl (gc g 1, 80, .inl (fun _ => 0)))] ++ X)) C hmn hd 0 rfl rfl inX0 tyX0 tyX0_ok nmX0 8 (by decide) (mT 100 (by decide +kernel)) rfl rfl rfl rfl (Nat.le_of_ble_eq_true rfl) rfl dX0_init_64 (fun H locs hd => ?_)
  refine W.widen (k := 6) (n := 270) (Nat.le_of_ble_eq_true rfl) (Nat.le_of_ble_eq_true rfl) ?_
  exact rVretN (post := fun b => b 3 = h0) (B := fun b => (blC g b s0) ++ X) C hr (fun i => if i = 3 then h0 else if i = 19 then q1 else if i = 20 then q2 else if i = 21 then q3 else if i = 22 then q4 else if i = 23 then q5 else if i = 24 then q6 else 0) rfl hd dX0_init_67

set_option maxRecDepth 100000 in
set_option maxHeartbeats 4000000 in
theorem c_X2_init {l : Launch} {g : Gp} {X : va_W} (hE : E0 g) {h0 : Nat} : Cn l g yX2_init cX2_init 1 1 8 2792 [.ref h0] ([(h0, .inr (3, [.int 0, .int 0, .int 0, .null, .null, .null, .null, .null, .null, .null, .null]))] ++ X) (fun b => b 2 = h0) (fun b => (blJ g b s0) ++ X) := by
  refine rHeadN hE (by decide +kernel) (Nat.le_of_ble_eq_true rfl) (fun p e s m below meth c C hr hmn hd ls hl => ?_)
  have hx := C.1
  have hb := C.2.1
  have hl : lv_has ls 1 [(0, .ref h0)] := hl
  generalize ([.ref h0] : List Value).toArray = args at C ⊢
  have C : Cx g p s m args meth c cX2_init 1 RX2 := C
  have hmn : meth.name = "<init>" := hmn
  refine lv_aload_n hx hb dX2_init_0 rfl (lv_at hl 0 rfl) ?_
  refine rObj C hl.1 (mT 42 (by decide +kernel)) (mT 29 (by decide +kernel)) (mT 30 (by decide +kernel)) dX2_init_1 ⟨(Nat.le_of_ble_eq_true rfl), (Nat.le_of_ble_eq_true rfl)⟩ ?_
  refine lv_aload_n hx hb dX2_init_4 rfl (lv_at hl 0 rfl) ?_
  refine lv_iconst (v := 4) hx hb dX2_init_5 (by decide) ?_
  refine rPutV (ws' := ([(h0, .inr (3, [.int 4, .int 0, .int 0, .null, .null, .null, .null, .null, .null, .null, .null]))] ++ X)) C hd 0 rfl rfl inX2 tyX2 tyX2_ok nmX2 0 (by decide) (mT 43 (by decide +kernel)) rfl rfl rfl (Nat.le_of_ble_eq_true rfl) rfl dX2_init_6 (fun H locs hd => ?_)
  refine lv_aload_n hx hb dX2_init_9 rfl (lv_at hl 0 rfl) ?_
  refine lv_iconst (v := 1) hx hb dX2_init_10 (by decide) ?_
  refine rPutV (ws' := ([(h0, .inr (3, [.int 4, .int 1, .int 0, .null, .null, .null, .null, .null, .null, .null, .null]))] ++ X)) C hd 0 rfl rfl inX2 tyX2 tyX2_ok nmX2 1 (by decide) (mT 46 (by decide +kernel)) rfl rfl rfl (Nat.le_of_ble_eq_true rfl) rfl dX2_init_11 (fun H locs hd => ?_)
  refine lv_aload_n hx hb dX2_init_14 rfl (lv_at hl 0 rfl) ?_
  refine lv_iconst (v := 0) hx hb dX2_init_15 (by decide) ?_
  refine rPutV (ws' := ([(h0, .inr (3, [.int 4, .int 1, .int 0, .null, .null, .null, .null, .null, .null, .null, .null]))] ++ X)) C hd 0 rfl rfl inX2 tyX2 tyX2_ok nmX2 2 (by decide) (mT 48 (by decide +kernel)) rfl rfl rfl (Nat.le_of_ble_eq_true rfl) rfl dX2_init_16 (fun H locs hd => ?_)
  refine lv_aload_n hx hb dX2_init_19 rfl (lv_at hl 0 rfl) ?_
  refine lv_bipush (v := 8) hx hb dX2_init_20 (by decide) ?_
  refine rNewa (atype := .int) (ty := .int) (t0 := 1) (N' := 8) (a0 := (8, .inl (fun _ => 0))) (A := [(h0, .inr (3, [.int 4, .int 1, .int 0, .null, .null, .null, .null, .null, .null, .null, .null]))]) C hd (mT 81 (by decide +kernel)) rfl rfl ra_int (fun _ => rfl) (by decide) (by decide) (Nat.le_of_ble_eq_true rfl) (Nat.le_of_ble_eq_true rfl) (Nat.le_of_ble_eq_true rfl) dX2_init_22 (fun q1 H hd => ?_)
  have hd : Dy g ([(h0, .inr (3, [.int 4, .int 1, .int 0, .null, .null, .null, .null, .null, .null, .null, .null])), (q1, .inl (gc g 1, 8, .inl (fun _ => 0)))] ++ X) s _ _ := hd
  refine rPutF (ws' := ([(h0, .inr (3, [.int 4, .int 1, .int 0, .ref q1, .null, .null, .null, .null, .null, .null, .null])), (q1, .inl (gc g 1, 8, .inl (fun _ => 0)))] ++ X)) C hmn hd 0 rfl rfl inX2 tyX2 tyX2_ok nmX2 3 (by decide) (mT 50 (by decide +kernel)) rfl rfl rfl rfl (Nat.le_of_ble_eq_true rfl) rfl dX2_init_24 (fun H locs hd => ?_)
  refine lv_aload_n hx hb dX2_init_27 rfl (lv_at hl 0 rfl) ?_
  refine lv_bipush (v := 8) hx hb dX2_init_28 (by decide) ?_
  refine rNewa (atype := .int) (ty := .int) (t0 := 1) (N' := 8) (a0 := (8, .inl (fun _ => 0))) (A := [(h0, .inr (3, [.int 4, .int 1, .int 0, .ref q1, .null, .null, .null, .null, .null, .null, .null])), (q1, .inl (gc g 1, 8, .inl (fun _ => 0)))]) C hd (mT 81 (by decide +kernel)) rfl rfl ra_int (fun _ => rfl) (by decide) (by decide) (Nat.le_of_ble_eq_true rfl) (Nat.le_of_ble_eq_true rfl) (Nat.le_of_ble_eq_true rfl) dX2_init_30 (fun q2 H hd => ?_)
  have hd : Dy g ([(h0, .inr (3, [.int 4, .int 1, .int 0, .ref q1, .null, .null, .null, .null, .null, .null, .null])), (q1, .inl (gc g 1, 8, .inl (fun _ => 0))), (q2, .inl (gc g 1, 8, .inl (fun _ => 0)))] ++ X) s _ _ := hd
  refine rPutF (ws' := ([(h0, .inr (3, [.int 4, .int 1, .int 0, .ref q1, .ref q2, .null, .null, .null, .null, .null, .null])), (q1, .inl (gc g 1, 8, .inl (fun _ => 0))), (q2, .inl (gc g 1, 8, .inl (fun _ => 0)))] ++ X)) C hmn hd 0 rfl rfl inX2 tyX2 tyX2_ok nmX2 4 (by decide) (mT 51 (by decide +kernel)) rfl rfl rfl rfl (Nat.le_of_ble_eq_true rfl) rfl dX2_init_32 (fun H locs hd => ?_)
  refine lv_aload_n hx hb dX2_init_35 rfl (lv_at hl 0 rfl) ?_
  refine lv_bipush (v := 8) hx hb dX2_init_36 (by decide) ?_
  refine rNewa (atype := .int) (ty := .int) (t0 := 1) (N' := 8) (a0 := (8, .inl (fun _ => 0))) (A := [(h0, .inr (3, [.int 4, .int 1, .int 0, .ref q1, .ref q2, .null, .null, .null, .null, .null, .null])), (q1, .inl (gc g 1, 8, .inl (fun _ => 0))), (q2, .inl (gc g 1, 8, .inl (fun _ => 0)))]) C hd (mT 81 (by decide +kernel)) rfl rfl ra_int (fun _ => rfl) (by decide) (by decide) (Nat.le_of_ble_eq_true rfl) (Nat.le_of_ble_eq_true rfl) (Nat.le_of_ble_eq_true rfl) dX2_init_38 (fun q3 H hd => ?_)
  have hd : Dy g ([(h0, .inr (3, [.int 4, .int 1, .int 0, .ref q1, .ref q2, .null, .null, .null, .null, .null, .null])), (q1, .inl (gc g 1, 8, .inl (fun _ => 0))), (q2, .inl (gc g 1, 8, .inl (fun _ => 0))), (q3, .inl (gc g 1, 8, .inl (fun _ => 0)))] ++ X) s _ _ := hd
  refine rPutF (ws' := ([(h0, .inr (3, [.int 4, .int 1, .int 0, .ref q1, .ref q2, .ref q3, .null, .null, .null, .null, .null])), (q1, .inl (gc g 1, 8, .inl (fun _ => 0))), (q2, .inl (gc g 1, 8, .inl (fun _ => 0))), (q3, .inl (gc g 1, 8, .inl (fun _ => 0)))] ++ X)) C hmn hd 0 rfl rfl inX2 tyX2 tyX2_ok nmX2 5 (by decide) (mT 52 (by decide +kernel)) rfl rfl rfl rfl (Nat.le_of_ble_eq_true rfl) rfl dX2_init_40 (fun H locs hd => ?_)
  refine lv_aload_n hx hb dX2_init_43 rfl (lv_at hl 0 rfl) ?_
  refine lv_bipush (v := 8) hx hb dX2_init_44 (by decide) ?_
  refine rNewa (atype := .int) (ty := .int) (t0 := 1) (N' := 8) (a0 := (8, .inl (fun _ => 0))) (A := [(h0, .inr (3, [.int 4, .int 1, .int 0, .ref q1, .ref q2, .ref q3, .null, .null, .null, .null, .null])), (q1, .inl (gc g 1, 8, .inl (fun _ => 0))), (q2, .inl (gc g 1, 8, .inl (fun _ => 0))), (q3, .inl (gc g 1, 8, .inl (fun _ => 0)))]) C hd (mT 81 (by decide +kernel)) rfl rfl ra_int (fun _ => rfl) (by decide) (by decide) (Nat.le_of_ble_eq_true rfl) (Nat.le_of_ble_eq_true rfl) (Nat.le_of_ble_eq_true rfl) dX2_init_46 (fun q4 H hd => ?_)
  have hd : Dy g ([(h0, .inr (3, [.int 4, .int 1, .int 0, .ref q1, .ref q2, .ref q3, .null, .null, .null, .null, .null])), (q1, .inl (gc g 1, 8, .inl (fun _ => 0))), (q2, .inl (gc g 1, 8, .inl (fun _ => 0))), (q3, .inl (gc g 1, 8, .inl (fun _ => 0))), (q4, .inl (gc g 1, 8, .inl (fun _ => 0)))] ++ X) s _ _ := hd
  refine rPutF (ws' := ([(h0, .inr (3, [.int 4, .int 1, .int 0, .ref q1, .ref q2, .ref q3, .ref q4, .null, .null, .null, .null])), (q1, .inl (gc g 1, 8, .inl (fun _ => 0))), (q2, .inl (gc g 1, 8, .inl (fun _ => 0))), (q3, .inl (gc g 1, 8, .inl (fun _ => 0))), (q4, .inl (gc g 1, 8, .inl (fun _ => 0)))] ++ X)) C hmn hd 0 rfl rfl inX2 tyX2 tyX2_ok nmX2 6 (by decide) (mT 53 (by decide +kernel)) rfl rfl rfl rfl (Nat.le_of_ble_eq_true rfl) rfl dX2_init_48 (fun H locs hd => ?_)
  refine lv_aload_n hx hb dX2_init_51 rfl (lv_at hl 0 rfl) ?_
  refine lv_sipush (v := 600) hx hb dX2_init_52 (by decide) ?_
  refine rNewa (atype := .byte) (ty := .byte) (t0 := 0) (N' := 600) (a0 := (600, .inl (fun _ => 0))) (A := [(h0, .inr (3, [.int 4, .int 1, .int 0, .ref q1, .ref q2, .ref q3, .ref q4, .null, .null, .null, .null])), (q1, .inl (gc g 1, 8, .inl (fun _ => 0))), (q2, .inl (gc g 1, 8, .inl (fun _ => 0))), (q3, .inl (gc g 1, 8, .inl (fun _ => 0))), (q4, .inl (gc g 1, 8, .inl (fun _ => 0)))]) C hd (mT 82 (by decide +kernel)) rfl rfl ra_byte (fun _ => rfl) (by decide) (by decide) (Nat.le_of_ble_eq_true rfl) (Nat.le_of_ble_eq_true rfl) (Nat.le_of_ble_eq_true rfl) dX2_init_55 (fun q5 H hd => ?_)
  have hd : Dy g ([(h0, .inr (3, [.int 4, .int 1, .int 0, .ref q1, .ref q2, .ref q3, .ref q4, .null, .null, .null, .null])), (q1, .inl (gc g 1, 8, .inl (fun _ => 0))), (q2, .inl (gc g 1, 8, .inl (fun _ => 0))), (q3, .inl (gc g 1, 8, .inl (fun _ => 0))), (q4, .inl (gc g 1, 8, .inl (fun _ => 0))), (q5, .inl (gc g 0, 600, .inl (fun _ => 0)))] ++ X) s _ _ := hd
  refine rPutF (ws' := ([(h0, .inr (3, [.int 4, .int 1, .int 0, .ref q1, .ref q2, .ref q3, .ref q4, .ref q5, .null, .null, .null])), (q1, .inl (gc g 1, 8, .inl (fun _ => 0))), (q2, .inl (gc g 1, 8, .inl (fun _ => 0))), (q3, .inl (gc g 1, 8, .inl (fun _ => 0))), (q4, .inl (gc g 1, 8, .inl (fun _ => 0))), (q5, .inl (gc g 0, 600, .inl (fun _ => 0)))] ++ X)) C hmn hd 0 rfl rfl inX2 tyX2 tyX2_ok nmX2 7 (by decide) (mT 54 (by decide +kernel)) rfl rfl rfl rfl (Nat.le_of_ble_eq_true rfl) rfl dX2_init_57 (fun H locs hd => ?_)
  refine lv_aload_n hx hb dX2_init_60 rfl (lv_at hl 0 rfl) ?_
  refine lv_sipush (v := 600) hx hb dX2_init_61 (by decide) ?_
  refine rNewa (atype := .int) (ty := .int) (t0 := 1) (N' := 600) (a0 := (600, .inl (fun _ => 0))) (A := [(h0, .inr (3, [.int 4, .int 1, .int 0, .ref q1, .ref q2, .ref q3, .ref q4, .ref q5, .null, .null, .null])), (q1, .inl (gc g 1, 8, .inl (fun _ => 0))), (q2, .inl (gc g 1, 8, .inl (fun _ => 0))), (q3, .inl (gc g 1, 8, .inl (fun _ => 0))), (q4, .inl (gc g 1, 8, .inl (fun _ => 0))), (q5, .inl (gc g 0, 600, .inl (fun _ => 0)))]) C hd (mT 81 (by decide +kernel)) rfl rfl ra_int (fun _ => rfl) (by decide) (by decide) (Nat.le_of_ble_eq_true rfl) (Nat.le_of_ble_eq_true rfl) (Nat.le_of_ble_eq_true rfl) dX2_init_64 (fun q6 H hd => ?_)
  have hd : Dy g ([(h0, .inr (3, [.int 4, .int 1, .int 0, .ref q1, .ref q2, .ref q3, .ref q4, .ref q5, .null, .null, .null])), (q1, .inl (gc g 1, 8, .inl (fun _ => 0))), (q2, .inl (gc g 1, 8, .inl (fun _ => 0))), (q3, .inl (gc g 1, 8, .inl (fun _ => 0))), (q4, .inl (gc g 1, 8, .inl (fun _ => 0))), (q5, .inl (gc g 0, 600, .inl (fun _ => 0))), (q6, .inl (gc g 1, 600, .inl (fun _ => 0)))] ++ X) s _ _ := hd
  refine rPutF (ws' := ([(h0, .inr (3, [.int 4, .int 1, .int 0, .ref q1, .ref q2, .ref q3, .ref q4, .ref q5, .ref q6, .null, .null])), (q1, .inl (gc g 1, 8, .inl (fun _ => 0))), (q2, .inl (gc g 1, 8, .inl (fun _ => 0))), (q3, .inl (gc g 1, 8, .inl (fun _ => 0))), (q4, .inl (gc g 1, 8, .inl (fun _ => 0))), (q5, .inl (gc g 0, 600, .inl (fun _ => 0))), (q6, .inl (gc g 1, 600, .inl (fun _ => 0)))] ++ X)) C hmn hd 0 rfl rfl inX2 tyX2 tyX2_ok nmX2 8 (by decide) (mT 55 (by decide +kernel)) rfl rfl rfl rfl (Nat.le_of_ble_eq_true rfl) rfl dX2_init_66 (fun H locs hd => ?_)
  refine lv_aload_n hx hb dX2_init_69 rfl (lv_at hl 0 rfl) ?_
  refine lv_sipush (v := 600) hx hb dX2_init_70 (by decide) ?_
  refine rNewa (atype := .int) (ty := .int) (t0 := 1) (N' := 600) (a0 := (600, .inl (fun _ => 0))) (A := [(h0, .inr (3, [.int 4, .int 1, .int 0, .ref q1, .ref q2, .ref q3, .ref q4, .ref q5, .ref q6, .null, .null])), (q1, .inl (gc g 1, 8, .inl (fun _ => 0))), (q2, .inl (gc g 1, 8, .inl (fun _ => 0))), (q3, .inl (gc g 1, 8, .inl (fun _ => 0))), (q4, .inl (gc g 1, 8, .inl (fun _ => 0))), (q5, .inl (gc g 0, 600, .inl (fun _ => 0))), (q6, .inl (gc g 1, 600, .inl (fun _ => 0)))]) C hd (mT 81 (by decide +kernel)) rfl rfl ra_int (fun _ => rfl) (by decide) (by decide) (Nat.le_of_ble_eq_true rfl) (Nat.le_of_ble_eq_true rfl) (Nat.le_of_ble_eq_true rfl) dX2_init_73 (fun q7 H hd => ?_)
  have hd : Dy g ([(h0, .inr (3, [.int 4, .int 1, .int 0, .ref q1, .ref q2, .ref q3, .ref q4, .ref q5, .ref q6, .null, .null])), (q1, .inl (gc g 1, 8, .inl (fun _ => 0))), (q2, .inl (gc g 1, 8, .inl (fun _ => 0))), (q3, .inl (gc g 1, 8, .inl (fun _ => 0))), (q4, .inl (gc g 1, 8, .inl (fun _ => 0))), (q5, .inl (gc g 0, 600, .inl (fun _ => 0))), (q6, .inl (gc g 1, 600, .inl (fun _ => 0))), (q7, .inl (gc g 1, 600, .inl (fun _ => 0)))] ++ X) s _ _ := hd
  refine rPutF (ws' := ([(h0, .inr (3, [.int 4, .int 1, .int 0, .ref q1, .ref q2, .ref q3, .ref q4, .ref q5, .ref q6, .ref q7, .null])), (q1, .inl (gc g 1, 8, .inl (fun _ => 0))), (q2, .inl (gc g 1, 8, .inl (fun _ => 0))), (q3, .inl (gc g 1, 8, .inl (fun _ => 0))), (q4, .inl (gc g 1, 8, .inl (fun _ => 0))), (q5, .inl (gc g 0, 600, .inl (fun _ => 0))), (q6, .inl (gc g 1, 600, .inl (fun _ => 0))), (q7, .inl (gc g 1, 600, .inl (fun _ => 0)))] ++ X)) C hmn hd 0 rfl rfl inX2 tyX2 tyX2_ok nmX2 9 (by decide) (mT 56 (by decide +kernel)) rfl rfl rfl rfl (Nat.le_of_ble_eq_true rfl) rfl dX2_init_75 (fun H locs hd => ?_)
  refine lv_aload_n hx hb dX2_init_78 rfl (lv_at hl 0 rfl) ?_
  refine lv_sipush (v := 960) hx hb dX2_init_79 (by decide) ?_
  refine rNewa (atype := .byte) (ty := .byte) (t0 := 0) (N' := 960) (a0 := (960, .inl (fun _ => 0))) (A := [(h0, .inr (3, [.int 4, .int 1, .int 0, .ref q1, .ref q2, .ref q3, .ref q4, .ref q5, .ref q6, .ref q7, .null])), (q1, .inl (gc g 1, 8, .inl (fun _ => 0))), (q2, .inl (gc g 1, 8, .inl (fun _ => 0))), (q3, .inl (gc g 1, 8, .inl (fun _ => 0))), (q4, .inl (gc g 1, 8, .inl (fun _ => 0))), (q5, .inl (gc g 0, 600, .inl (fun _ => 0))), (q6, .inl (gc g 1, 600, .inl (fun _ => 0))), (q7, .inl (gc g 1, 600, .inl (fun _ => 0)))]) C hd (mT 82 (by decide +kernel)) rfl rfl ra_byte (fun _ => rfl) (by decide) (by decide) (Nat.le_of_ble_eq_true rfl) (Nat.le_of_ble_eq_true rfl) (Nat.le_of_ble_eq_true rfl) dX2_init_82 (fun q8 H hd => ?_)
  have hd : Dy g ([(h0, .inr (3, [.int 4, .int 1, .int 0, .ref q1, .ref q2, .ref q3, .ref q4, .ref q5, .ref q6, .ref q7, .null])), (q1, .inl (gc g 1, 8, .inl (fun _ => 0))), (q2, .inl (gc g 1, 8, .inl (fun _ => 0))), (q3, .inl (gc g 1, 8, .inl (fun _ => 0))), (q4, .inl (gc g 1, 8, .inl (fun _ => 0))), (q5, .inl (gc g 0, 600, .inl (fun _ => 0))), (q6, .inl (gc g 1, 600, .inl (fun _ => 0))), (q7, .inl (gc g 1, 600, .inl (fun _ => 0))), (q8, .inl (gc g 0, 960, .inl (fun _ => 0)))] ++ X) s _ _ := hd
  refine rPutF (ws' := ([(h0, .inr (3, [.int 4, .int 1, .int 0, .ref q1, .ref q2, .ref q3, .ref q4, .ref q5, .ref q6, .ref q7, .ref q8])), (q1, .inl (gc g 1, 8, .inl (fun _ => 0))), (q2, .inl (gc g 1, 8, .inl (fun _ => 0))), (q3, .inl (gc g 1, 8, .inl (fun _ => 0))), (q4, .inl (gc g 1, 8, .inl (fun _ => 0))), (q5, .inl (gc g 0, 600, .inl (fun _ => 0))), (q6, .inl (gc g 1, 600, .inl (fun _ => 0))), (q7, .inl (gc g 1, 600, .inl (fun _ => 0))), (q8, .inl (gc g 0, 960, .inl (fun _ => 0)))] ++ X)) C hmn hd 0 rfl rfl inX2 tyX2 tyX2_ok nmX2 10 (by decide) (mT 57 (by decide +kernel)) rfl rfl rfl rfl (Nat.le_of_ble_eq_true rfl) rfl dX2_init_84 (fun H locs hd => ?_)
  refine lv_aload_n hx hb dX2_init_87 rfl (lv_at hl 0 rfl) ?_
  refine rGet C hd 0 rfl rfl inX2 3 (by decide) (mT 50 (by decide +kernel)) rfl dX2_init_88 ?_
  refine lv_iconst (v := 0) hx hb dX2_init_91 (by decide) ?_
  refine lv_bipush (v := (-2 : Int32)) hx hb dX2_init_92 (by decide) ?_
  refine rIast (ws' := ([(h0, .inr (3, [.int 4, .int 1, .int 0, .ref q1, .ref q2, .ref q3, .ref q4, .ref q5, .ref q6, .ref q7, .ref q8])), (q1, .inl (gc g 1, 8, .inl (upd (fun _ => 0) 0 (-2)))), (q2, .inl (gc g 1, 8, .inl (fun _ => 0))), (q3, .inl (gc g 1, 8, .inl (fun _ => 0))), (q4, .inl (gc g 1, 8, .inl (fun _ => 0))), (q5, .inl (gc g 0, 600, .inl (fun _ => 0))), (q6, .inl (gc g 1, 600, .inl (fun _ => 0))), (q7, .inl (gc g 1, 600, .inl (fun _ => 0))), (q8, .inl (gc g 0, 960, .inl (fun _ => 0)))] ++ X)) C hd 1 rfl (inb_i (by decide +kernel)) (by rw [show (0 : Int32).toNatClampNeg = 0 from by decide]; rfl) dX2_init_94 (fun H locs hd => ?_)
  refine W.widen (k := 8) (n := 2792) (Nat.le_of_ble_eq_true rfl) (Nat.le_of_ble_eq_true rfl) ?_
  exact rVretN (post := fun b => b 2 = h0) (B := fun b => (blJ g b s0) ++ X) C hr (fun i => if i = 2 then h0 else if i = 11 then q1 else if i = 12 then q2 else if i = 13 then q3 else if i = 14 then q4 else if i = 15 then q5 else if i = 16 then q6 else if i = 17 then q7 else if i = 18 then q8 else 0) rfl hd dX2_init_95

set_option maxRecDepth 100000 in
set_option maxHeartbeats 4000000 in
theorem c_X6_init {l : Launch} {g : Gp} {X : va_W} (hE : E0 g) {h0 : Nat} : Cn l g yX6_init cX6_init 1 1 3 1206 [.ref h0] ([(h0, .inr (7, [.int 0, .null, .null, .null]))] ++ X) (fun b => b 5 = h0) (fun b => (blT g b s0) ++ X) := by
  refine rHeadN hE (by decide +kernel) (Nat.le_of_ble_eq_true rfl) (fun p e s m below meth c C hr hmn hd ls hl => ?_)
  have hx := C.1
  have hb := C.2.1
  have hl : lv_has ls 1 [(0, .ref h0)] := hl
  generalize ([.ref h0] : List Value).toArray = args at C ⊢
  have C : Cx g p s m args meth c cX6_init 1 RX6 := C
  have hmn : meth.name = "<init>" := hmn
  refine lv_aload_n hx hb dX6_init_0 rfl (lv_at hl 0 rfl) ?_
  refine rObj C hl.1 (mT 190 (by decide +kernel)) (mT 29 (by decide +kernel)) (mT 30 (by decide +kernel)) dX6_init_1 ⟨(Nat.le_of_ble_eq_true rfl), (Nat.le_of_ble_eq_true rfl)⟩ ?_
  refine lv_aload_n hx hb dX6_init_4 rfl (lv_at hl 0 rfl) ?_
  refine lv_iconst (v := 0) hx hb dX6_init_5 (by decide) ?_
  refine rPutV (ws' := ([(h0, .inr (7, [.int 0, .null, .null, .null]))] ++ X)) C hd 0 rfl rfl inX6 tyX6 tyX6_ok nmX6 0 (by decide) (mT 191 (by decide +kernel)) rfl rfl rfl (Nat.le_of_ble_eq_true rfl) rfl dX6_init_6 (fun H locs hd => ?_)
  refine lv_aload_n hx hb dX6_init_9 rfl (lv_at hl 0 rfl) ?_
  refine lv_sipush (v := 402) hx hb dX6_init_10 (by decide) ?_
  refine rNewa (atype := .int) (ty := .int) (t0 := 1) (N' := 402) (a0 := (402, .inl (fun _ => 0))) (A := [(h0, .inr (7, [.int 0, .null, .null, .null]))]) C hd (mT 81 (by decide +kernel)) rfl rfl ra_int (fun _ => rfl) (by decide) (by decide) (Nat.le_of_ble_eq_true rfl) (Nat.le_of_ble_eq_true rfl) (Nat.le_of_ble_eq_true rfl) dX6_init_13 (fun q1 H hd => ?_)
  have hd : Dy g ([(h0, .inr (7, [.int 0, .null, .null, .null])), (q1, .inl (gc g 1, 402, .inl (fun _ => 0)))] ++ X) s _ _ := hd
  refine rPutF (ws' := ([(h0, .inr (7, [.int 0, .ref q1, .null, .null])), (q1, .inl (gc g 1, 402, .inl (fun _ => 0)))] ++ X)) C hmn hd 0 rfl rfl inX6 tyX6 tyX6_ok nmX6 1 (by decide) (mT 193 (by decide +kernel)) rfl rfl rfl rfl (Nat.le_of_ble_eq_true rfl) rfl dX6_init_15 (fun H locs hd => ?_)
  refine lv_aload_n hx hb dX6_init_18 rfl (lv_at hl 0 rfl) ?_
  refine lv_sipush (v := 402) hx hb dX6_init_19 (by decide) ?_
  refine rNewa (atype := .int) (ty := .int) (t0 := 1) (N' := 402) (a0 := (402, .inl (fun _ => 0))) (A := [(h0, .inr (7, [.int 0, .ref q1, .null, .null])), (q1, .inl (gc g 1, 402, .inl (fun _ => 0)))]) C hd (mT 81 (by decide +kernel)) rfl rfl ra_int (fun _ => rfl) (by decide) (by decide) (Nat.le_of_ble_eq_true rfl) (Nat.le_of_ble_eq_true rfl) (Nat.le_of_ble_eq_true rfl) dX6_init_22 (fun q2 H hd => ?_)
  have hd : Dy g ([(h0, .inr (7, [.int 0, .ref q1, .null, .null])), (q1, .inl (gc g 1, 402, .inl (fun _ => 0))), (q2, .inl (gc g 1, 402, .inl (fun _ => 0)))] ++ X) s _ _ := hd
  refine rPutF (ws' := ([(h0, .inr (7, [.int 0, .ref q1, .ref q2, .null])), (q1, .inl (gc g 1, 402, .inl (fun _ => 0))), (q2, .inl (gc g 1, 402, .inl (fun _ => 0)))] ++ X)) C hmn hd 0 rfl rfl inX6 tyX6 tyX6_ok nmX6 2 (by decide) (mT 194 (by decide +kernel)) rfl rfl rfl rfl (Nat.le_of_ble_eq_true rfl) rfl dX6_init_24 (fun H locs hd => ?_)
  refine lv_aload_n hx hb dX6_init_27 rfl (lv_at hl 0 rfl) ?_
  refine lv_sipush (v := 402) hx hb dX6_init_28 (by decide) ?_
  refine rNewa (atype := .int) (ty := .int) (t0 := 1) (N' := 402) (a0 := (402, .inl (fun _ => 0))) (A := [(h0, .inr (7, [.int 0, .ref q1, .ref q2, .null])), (q1, .inl (gc g 1, 402, .inl (fun _ => 0))), (q2, .inl (gc g 1, 402, .inl (fun _ => 0)))]) C hd (mT 81 (by decide +kernel)) rfl rfl ra_int (fun _ => rfl) (by decide) (by decide) (Nat.le_of_ble_eq_true rfl) (Nat.le_of_ble_eq_true rfl) (Nat.le_of_ble_eq_true rfl) dX6_init_31 (fun q3 H hd => ?_)
  have hd : Dy g ([(h0, .inr (7, [.int 0, .ref q1, .ref q2, .null])), (q1, .inl (gc g 1, 402, .inl (fun _ => 0))), (q2, .inl (gc g 1, 402, .inl (fun _ => 0))), (q3, .inl (gc g 1, 402, .inl (fun _ => 0)))] ++ X) s _ _ := hd
  refine rPutF (ws' := ([(h0, .inr (7, [.int 0, .ref q1, .ref q2, .ref q3])), (q1, .inl (gc g 1, 402, .inl (fun _ => 0))), (q2, .inl (gc g 1, 402, .inl (fun _ => 0))), (q3, .inl (gc g 1, 402, .inl (fun _ => 0)))] ++ X)) C hmn hd 0 rfl rfl inX6 tyX6 tyX6_ok nmX6 3 (by decide) (mT 195 (by decide +kernel)) rfl rfl rfl rfl (Nat.le_of_ble_eq_true rfl) rfl dX6_init_33 (fun H locs hd => ?_)
  refine W.widen (k := 3) (n := 1206) (Nat.le_of_ble_eq_true rfl) (Nat.le_of_ble_eq_true rfl) ?_
  exact rVretN (post := fun b => b 5 = h0) (B := fun b => (blT g b s0) ++ X) C hr (fun i => if i = 5 then h0 else if i = 26 then q1 else if i = 27 then q2 else if i = 28 then q3 else 0) rfl hd dX6_init_36

set_option maxRecDepth 100000 in
set_option maxHeartbeats 4000000 in
theorem c_X1_init {l : Launch} {g : Gp} {X : va_W} (hE : E0 g) {h0 p1 : Nat} : Cn l g yX1_init cX1_init 2 1 0 0 [.ref h0, .ref p1] ([(h0, .inr (2, [.null, .int 0, .int 0, .int 0, .int 0, .int 0, .int 0]))] ++ X) (fun b => b 6 = h0 ∧ b 5 = p1) (fun b => (blG g b s0) ++ X) := by
  refine rHeadN hE (by decide +kernel) (Nat.le_of_ble_eq_true rfl) (fun p e s m below meth c C hr hmn hd ls hl => ?_)
  have hx := C.1
  have hb := C.2.1
  have hl : lv_has ls 2 [(0, .ref h0), (1, .ref p1)] := hl
  generalize ([.ref h0, .ref p1] : List Value).toArray = args at C ⊢
  have C : Cx g p s m args meth c cX1_init 2 RX1 := C
  have hmn : meth.name = "<init>" := hmn
  refine lv_aload_n hx hb dX1_init_0 rfl (lv_at hl 0 rfl) ?_
  refine rObj C hl.1 (mT 210 (by decide +kernel)) (mT 29 (by decide +kernel)) (mT 30 (by decide +kernel)) dX1_init_1 ⟨(Nat.le_of_ble_eq_true rfl), (Nat.le_of_ble_eq_true rfl)⟩ ?_
  refine lv_aload_n hx hb dX1_init_4 rfl (lv_at hl 0 rfl) ?_
  refine lv_aload_n hx hb dX1_init_5 rfl (lv_at hl 1 rfl) ?_
  refine rPutF (ws' := ([(h0, .inr (2, [.ref p1, .int 0, .int 0, .int 0, .int 0, .int 0, .int 0]))] ++ X)) C hmn hd 0 rfl rfl inX1 tyX1 tyX1_ok nmX1 0 (by decide) (mT 211 (by decide +kernel)) rfl rfl rfl rfl (Nat.le_of_ble_eq_true rfl) rfl dX1_init_6 (fun H locs hd => ?_)
  refine lv_aload_n hx hb dX1_init_9 rfl (lv_at hl 0 rfl) ?_
  refine lv_iconst (v := 0) hx hb dX1_init_10 (by decide) ?_
  refine rPutV (ws' := ([(h0, .inr (2, [.ref p1, .int 0, .int 0, .int 0, .int 0, .int 0, .int 0]))] ++ X)) C hd 0 rfl rfl inX1 tyX1 tyX1_ok nmX1 1 (by decide) (mT 212 (by decide +kernel)) rfl rfl rfl (Nat.le_of_ble_eq_true rfl) rfl dX1_init_11 (fun H locs hd => ?_)
  refine lv_aload_n hx hb dX1_init_14 rfl (lv_at hl 0 rfl) ?_
  refine lv_iconst (v := 0) hx hb dX1_init_15 (by decide) ?_
  refine rPutV (ws' := ([(h0, .inr (2, [.ref p1, .int 0, .int 0, .int 0, .int 0, .int 0, .int 0]))] ++ X)) C hd 0 rfl rfl inX1 tyX1 tyX1_ok nmX1 2 (by decide) (mT 213 (by decide +kernel)) rfl rfl rfl (Nat.le_of_ble_eq_true rfl) rfl dX1_init_16 (fun H locs hd => ?_)
  refine lv_aload_n hx hb dX1_init_19 rfl (lv_at hl 0 rfl) ?_
  refine lv_iconst (v := (-1 : Int32)) hx hb dX1_init_20 (by decide) ?_
  refine rPutV (ws' := ([(h0, .inr (2, [.ref p1, .int 0, .int 0, .int (-1 : Int32), .int 0, .int 0, .int 0]))] ++ X)) C hd 0 rfl rfl inX1 tyX1 tyX1_ok nmX1 3 (by decide) (mT 215 (by decide +kernel)) rfl rfl rfl (Nat.le_of_ble_eq_true rfl) rfl dX1_init_21 (fun H locs hd => ?_)
  refine lv_aload_n hx hb dX1_init_24 rfl (lv_at hl 0 rfl) ?_
  refine lv_iconst (v := 4) hx hb dX1_init_25 (by decide) ?_
  refine rPutV (ws' := ([(h0, .inr (2, [.ref p1, .int 0, .int 0, .int (-1 : Int32), .int 4, .int 0, .int 0]))] ++ X)) C hd 0 rfl rfl inX1 tyX1 tyX1_ok nmX1 4 (by decide) (mT 217 (by decide +kernel)) rfl rfl rfl (Nat.le_of_ble_eq_true rfl) rfl dX1_init_26 (fun H locs hd => ?_)
  refine lv_aload_n hx hb dX1_init_29 rfl (lv_at hl 0 rfl) ?_
  refine lv_iconst (v := 4) hx hb dX1_init_30 (by decide) ?_
  refine rPutV (ws' := ([(h0, .inr (2, [.ref p1, .int 0, .int 0, .int (-1 : Int32), .int 4, .int 4, .int 0]))] ++ X)) C hd 0 rfl rfl inX1 tyX1 tyX1_ok nmX1 5 (by decide) (mT 219 (by decide +kernel)) rfl rfl rfl (Nat.le_of_ble_eq_true rfl) rfl dX1_init_31 (fun H locs hd => ?_)
  refine lv_aload_n hx hb dX1_init_34 rfl (lv_at hl 0 rfl) ?_
  refine lv_iconst (v := 0) hx hb dX1_init_35 (by decide) ?_
  refine rPutV (ws' := ([(h0, .inr (2, [.ref p1, .int 0, .int 0, .int (-1 : Int32), .int 4, .int 4, .int 0]))] ++ X)) C hd 0 rfl rfl inX1 tyX1 tyX1_ok nmX1 6 (by decide) (mT 221 (by decide +kernel)) rfl rfl rfl (Nat.le_of_ble_eq_true rfl) rfl dX1_init_36 (fun H locs hd => ?_)
  refine W.widen (k := 0) (n := 0) (Nat.le_of_ble_eq_true rfl) (Nat.le_of_ble_eq_true rfl) ?_
  exact rVretN (post := fun b => b 6 = h0 ∧ b 5 = p1) (B := fun b => (blG g b s0) ++ X) C hr (fun i => if i = 5 then p1 else if i = 6 then h0 else 0) ⟨rfl, rfl⟩ hd dX1_init_39

set_option maxRecDepth 100000 in
set_option maxHeartbeats 4000000 in
theorem c_X4_init {l : Launch} {g : Gp} {X : va_W} (hE : E0 g) {h0 p1 : Nat} : Cn l g yX4_init cX4_init 2 1 4 15 [.ref h0, .ref p1] ([(h0, .inr (5, [.null, .int 0, .int 0, .null, .null, .null, .null, .int 0, .int 0, .int 0, .int 0]))] ++ X) (fun b => b 7 = h0 ∧ b 5 = p1) (fun b => (blR g b s0) ++ X) := by
  refine rHeadN hE (by decide +kernel) (Nat.le_of_ble_eq_true rfl) (fun p e s m below meth c C hr hmn hd ls hl => ?_)
  have hx := C.1
  have hb := C.2.1
  have hl : lv_has ls 2 [(0, .ref h0), (1, .ref p1)] := hl
  generalize ([.ref h0, .ref p1] : List Value).toArray = args at C ⊢
  have C : Cx g p s m args meth c cX4_init 2 RX4 := C
  have hmn : meth.name = "<init>" := hmn
  refine lv_aload_n hx hb dX4_init_0 rfl (lv_at hl 0 rfl) ?_
  refine rObj C hl.1 (mT 243 (by decide +kernel)) (mT 29 (by decide +kernel)) (mT 30 (by decide +kernel)) dX4_init_1 ⟨(Nat.le_of_ble_eq_true rfl), (Nat.le_of_ble_eq_true rfl)⟩ ?_
  refine lv_aload_n hx hb dX4_init_4 rfl (lv_at hl 0 rfl) ?_
  refine lv_aload_n hx hb dX4_init_5 rfl (lv_at hl 1 rfl) ?_
  refine rPutF (ws' := ([(h0, .inr (5, [.ref p1, .int 0, .int 0, .null, .null, .null, .null, .int 0, .int 0, .int 0, .int 0]))] ++ X)) C hmn hd 0 rfl rfl inX4 tyX4 tyX4_ok nmX4 0 (by decide) (mT 244 (by decide +kernel)) rfl rfl rfl rfl (Nat.le_of_ble_eq_true rfl) rfl dX4_init_6 (fun H locs hd => ?_)
  refine lv_aload_n hx hb dX4_init_9 rfl (lv_at hl 0 rfl) ?_
  refine lv_iconst (v := 0) hx hb dX4_init_10 (by decide) ?_
  refine rPutV (ws' := ([(h0, .inr (5, [.ref p1, .int 0, .int 0, .null, .null, .null, .null, .int 0, .int 0, .int 0, .int 0]))] ++ X)) C hd 0 rfl rfl inX4 tyX4 tyX4_ok nmX4 1 (by decide) (mT 245 (by decide +kernel)) rfl rfl rfl (Nat.le_of_ble_eq_true rfl) rfl dX4_init_11 (fun H locs hd => ?_)
  refine lv_aload_n hx hb dX4_init_14 rfl (lv_at hl 0 rfl) ?_
  refine lv_iconst (v := 0) hx hb dX4_init_15 (by decide) ?_
  refine rPutV (ws' := ([(h0, .inr (5, [.ref p1, .int 0, .int 0, .null, .null, .null, .null, .int 0, .int 0, .int 0, .int 0]))] ++ X)) C hd 0 rfl rfl inX4 tyX4 tyX4_ok nmX4 2 (by decide) (mT 246 (by decide +kernel)) rfl rfl rfl (Nat.le_of_ble_eq_true rfl) rfl dX4_init_16 (fun H locs hd => ?_)
  refine lv_aload_n hx hb dX4_init_19 rfl (lv_at hl 0 rfl) ?_
  refine lv_iconst (v := 3) hx hb dX4_init_20 (by decide) ?_
  refine rNewa (atype := .int) (ty := .int) (t0 := 1) (N' := 3) (a0 := (3, .inl (fun _ => 0))) (A := [(h0, .inr (5, [.ref p1, .int 0, .int 0, .null, .null, .null, .null, .int 0, .int 0, .int 0, .int 0]))]) C hd (mT 81 (by decide +kernel)) rfl rfl ra_int (fun _ => rfl) (by decide) (by decide) (Nat.le_of_ble_eq_true rfl) (Nat.le_of_ble_eq_true rfl) (Nat.le_of_ble_eq_true rfl) dX4_init_21 (fun q1 H hd => ?_)
  have hd : Dy g ([(h0, .inr (5, [.ref p1, .int 0, .int 0, .null, .null, .null, .null, .int 0, .int 0, .int 0, .int 0])), (q1, .inl (gc g 1, 3, .inl (fun _ => 0)))] ++ X) s _ _ := hd
  refine rPutF (ws' := ([(h0, .inr (5, [.ref p1, .int 0, .int 0, .ref q1, .null, .null, .null, .int 0, .int 0, .int 0, .int 0])), (q1, .inl (gc g 1, 3, .inl (fun _ => 0)))] ++ X)) C hmn hd 0 rfl rfl inX4 tyX4 tyX4_ok nmX4 3 (by decide) (mT 247 (by decide +kernel)) rfl rfl rfl rfl (Nat.le_of_ble_eq_true rfl) rfl dX4_init_23 (fun H locs hd => ?_)
  refine lv_aload_n hx hb dX4_init_26 rfl (lv_at hl 0 rfl) ?_
  refine lv_iconst (v := 3) hx hb dX4_init_27 (by decide) ?_
  refine rNewa (atype := .int) (ty := .int) (t0 := 1) (N' := 3) (a0 := (3, .inl (fun _ => 0))) (A := [(h0, .inr (5, [.ref p1, .int 0, .int 0, .ref q1, .null, .null, .null, .int 0, .int 0, .int 0, .int 0])), (q1, .inl (gc g 1, 3, .inl (fun _ => 0)))]) C hd (mT 81 (by decide +kernel)) rfl rfl ra_int (fun _ => rfl) (by decide) (by decide) (Nat.le_of_ble_eq_true rfl) (Nat.le_of_ble_eq_true rfl) (Nat.le_of_ble_eq_true rfl) dX4_init_28 (fun q2 H hd => ?_)
  have hd : Dy g ([(h0, .inr (5, [.ref p1, .int 0, .int 0, .ref q1, .null, .null, .null, .int 0, .int 0, .int 0, .int 0])), (q1, .inl (gc g 1, 3, .inl (fun _ => 0))), (q2, .inl (gc g 1, 3, .inl (fun _ => 0)))] ++ X) s _ _ := hd
  refine rPutF (ws' := ([(h0, .inr (5, [.ref p1, .int 0, .int 0, .ref q1, .ref q2, .null, .null, .int 0, .int 0, .int 0, .int 0])), (q1, .inl (gc g 1, 3, .inl (fun _ => 0))), (q2, .inl (gc g 1, 3, .inl (fun _ => 0)))] ++ X)) C hmn hd 0 rfl rfl inX4 tyX4 tyX4_ok nmX4 4 (by decide) (mT 248 (by decide +kernel)) rfl rfl rfl rfl (Nat.le_of_ble_eq_true rfl) rfl dX4_init_30 (fun H locs hd => ?_)
  refine lv_aload_n hx hb dX4_init_33 rfl (lv_at hl 0 rfl) ?_
  refine lv_iconst (v := 3) hx hb dX4_init_34 (by decide) ?_
  refine rNewa (atype := .int) (ty := .int) (t0 := 1) (N' := 3) (a0 := (3, .inl (fun _ => 0))) (A := [(h0, .inr (5, [.ref p1, .int 0, .int 0, .ref q1, .ref q2, .null, .null, .int 0, .int 0, .int 0, .int 0])), (q1, .inl (gc g 1, 3, .inl (fun _ => 0))), (q2, .inl (gc g 1, 3, .inl (fun _ => 0)))]) C hd (mT 81 (by decide +kernel)) rfl rfl ra_int (fun _ => rfl) (by decide) (by decide) (Nat.le_of_ble_eq_true rfl) (Nat.le_of_ble_eq_true rfl) (Nat.le_of_ble_eq_true rfl) dX4_init_35 (fun q3 H hd => ?_)
  have hd : Dy g ([(h0, .inr (5, [.ref p1, .int 0, .int 0, .ref q1, .ref q2, .null, .null, .int 0, .int 0, .int 0, .int 0])), (q1, .inl (gc g 1, 3, .inl (fun _ => 0))), (q2, .inl (gc g 1, 3, .inl (fun _ => 0))), (q3, .inl (gc g 1, 3, .inl (fun _ => 0)))] ++ X) s _ _ := hd
  refine rPutF (ws' := ([(h0, .inr (5, [.ref p1, .int 0, .int 0, .ref q1, .ref q2, .ref q3, .null, .int 0, .int 0, .int 0, .int 0])), (q1, .inl (gc g 1, 3, .inl (fun _ => 0))), (q2, .inl (gc g 1, 3, .inl (fun _ => 0))), (q3, .inl (gc g 1, 3, .inl (fun _ => 0)))] ++ X)) C hmn hd 0 rfl rfl inX4 tyX4 tyX4_ok nmX4 5 (by decide) (mT 249 (by decide +kernel)) rfl rfl rfl rfl (Nat.le_of_ble_eq_true rfl) rfl dX4_init_37 (fun H locs hd => ?_)
  refine lv_aload_n hx hb dX4_init_40 rfl (lv_at hl 0 rfl) ?_
  refine lv_bipush (v := 6) hx hb dX4_init_41 (by decide) ?_
  refine rNewa (atype := .int) (ty := .int) (t0 := 1) (N' := 6) (a0 := (6, .inl (fun _ => 0))) (A := [(h0, .inr (5, [.ref p1, .int 0, .int 0, .ref q1, .ref q2, .ref q3, .null, .int 0, .int 0, .int 0, .int 0])), (q1, .inl (gc g 1, 3, .inl (fun _ => 0))), (q2, .inl (gc g 1, 3, .inl (fun _ => 0))), (q3, .inl (gc g 1, 3, .inl (fun _ => 0)))]) C hd (mT 81 (by decide +kernel)) rfl rfl ra_int (fun _ => rfl) (by decide) (by decide) (Nat.le_of_ble_eq_true rfl) (Nat.le_of_ble_eq_true rfl) (Nat.le_of_ble_eq_true rfl) dX4_init_43 (fun q4 H hd => ?_)
  have hd : Dy g ([(h0, .inr (5, [.ref p1, .int 0, .int 0, .ref q1, .ref q2, .ref q3, .null, .int 0, .int 0, .int 0, .int 0])), (q1, .inl (gc g 1, 3, .inl (fun _ => 0))), (q2, .inl (gc g 1, 3, .inl (fun _ => 0))), (q3, .inl (gc g 1, 3, .inl (fun _ => 0))), (q4, .inl (gc g 1, 6, .inl (fun _ => 0)))] ++ X) s _ _ := hd
  refine rPutF (ws' := ([(h0, .inr (5, [.ref p1, .int 0, .int 0, .ref q1, .ref q2, .ref q3, .ref q4, .int 0, .int 0, .int 0, .int 0])), (q1, .inl (gc g 1, 3, .inl (fun _ => 0))), (q2, .inl (gc g 1, 3, .inl (fun _ => 0))), (q3, .inl (gc g 1, 3, .inl (fun _ => 0))), (q4, .inl (gc g 1, 6, .inl (fun _ => 0)))] ++ X)) C hmn hd 0 rfl rfl inX4 tyX4 tyX4_ok nmX4 6 (by decide) (mT 250 (by decide +kernel)) rfl rfl rfl rfl (Nat.le_of_ble_eq_true rfl) rfl dX4_init_45 (fun H locs hd => ?_)
  refine lv_aload_n hx hb dX4_init_48 rfl (lv_at hl 0 rfl) ?_
  refine lv_bipush (v := 30) hx hb dX4_init_49 (by decide) ?_
  refine rPutV (ws' := ([(h0, .inr (5, [.ref p1, .int 0, .int 0, .ref q1, .ref q2, .ref q3, .ref q4, .int 30, .int 0, .int 0, .int 0])), (q1, .inl (gc g 1, 3, .inl (fun _ => 0))), (q2, .inl (gc g 1, 3, .inl (fun _ => 0))), (q3, .inl (gc g 1, 3, .inl (fun _ => 0))), (q4, .inl (gc g 1, 6, .inl (fun _ => 0)))] ++ X)) C hd 0 rfl rfl inX4 tyX4 tyX4_ok nmX4 7 (by decide) (mT 251 (by decide +kernel)) rfl rfl rfl (Nat.le_of_ble_eq_true rfl) rfl dX4_init_51 (fun H locs hd => ?_)
  refine lv_aload_n hx hb dX4_init_54 rfl (lv_at hl 0 rfl) ?_
  refine lv_iconst (v := 0) hx hb dX4_init_55 (by decide) ?_
  refine rPutV (ws' := ([(h0, .inr (5, [.ref p1, .int 0, .int 0, .ref q1, .ref q2, .ref q3, .ref q4, .int 30, .int 0, .int 0, .int 0])), (q1, .inl (gc g 1, 3, .inl (fun _ => 0))), (q2, .inl (gc g 1, 3, .inl (fun _ => 0))), (q3, .inl (gc g 1, 3, .inl (fun _ => 0))), (q4, .inl (gc g 1, 6, .inl (fun _ => 0)))] ++ X)) C hd 0 rfl rfl inX4 tyX4 tyX4_ok nmX4 8 (by decide) (mT 253 (by decide +kernel)) rfl rfl rfl (Nat.le_of_ble_eq_true rfl) rfl dX4_init_56 (fun H locs hd => ?_)
  refine lv_aload_n hx hb dX4_init_59 rfl (lv_at hl 0 rfl) ?_
  refine lv_iconst (v := 0) hx hb dX4_init_60 (by decide) ?_
  refine rPutV (ws' := ([(h0, .inr (5, [.ref p1, .int 0, .int 0, .ref q1, .ref q2, .ref q3, .ref q4, .int 30, .int 0, .int 0, .int 0])), (q1, .inl (gc g 1, 3, .inl (fun _ => 0))), (q2, .inl (gc g 1, 3, .inl (fun _ => 0))), (q3, .inl (gc g 1, 3, .inl (fun _ => 0))), (q4, .inl (gc g 1, 6, .inl (fun _ => 0)))] ++ X)) C hd 0 rfl rfl inX4 tyX4 tyX4_ok nmX4 9 (by decide) (mT 255 (by decide +kernel)) rfl rfl rfl (Nat.le_of_ble_eq_true rfl) rfl dX4_init_61 (fun H locs hd => ?_)
  refine lv_aload_n hx hb dX4_init_64 rfl (lv_at hl 0 rfl) ?_
  refine lv_iconst (v := 0) hx hb dX4_init_65 (by decide) ?_
  refine rPutV (ws' := ([(h0, .inr (5, [.ref p1, .int 0, .int 0, .ref q1, .ref q2, .ref q3, .ref q4, .int 30, .int 0, .int 0, .int 0])), (q1, .inl (gc g 1, 3, .inl (fun _ => 0))), (q2, .inl (gc g 1, 3, .inl (fun _ => 0))), (q3, .inl (gc g 1, 3, .inl (fun _ => 0))), (q4, .inl (gc g 1, 6, .inl (fun _ => 0)))] ++ X)) C hd 0 rfl rfl inX4 tyX4 tyX4_ok nmX4 10 (by decide) (mT 257 (by decide +kernel)) rfl rfl rfl (Nat.le_of_ble_eq_true rfl) rfl dX4_init_66 (fun H locs hd => ?_)
  refine W.widen (k := 4) (n := 15) (Nat.le_of_ble_eq_true rfl) (Nat.le_of_ble_eq_true rfl) ?_
  exact rVretN (post := fun b => b 7 = h0 ∧ b 5 = p1) (B := fun b => (blR g b s0) ++ X) C hr (fun i => if i = 5 then p1 else if i = 7 then h0 else if i = 29 then q1 else if i = 30 then q2 else if i = 31 then q3 else if i = 32 then q4 else 0) ⟨rfl, rfl⟩ hd dX4_init_69

set_option maxRecDepth 100000 in
set_option maxHeartbeats 4000000 in
theorem c_X3_init {l : Launch} {g : Gp} {X : va_W} (hE : E0 g) {h0 p1 p2 p3 : Nat} {pg : Int32} : Cn l g yX3_init cX3_init 2 1 1 8 [.ref h0, .ref p1] ([(h0, .inr (4, [.null, .null, .null, .null, .int 0, .int 0, .int 0, .int 0, .int 0, .int 0, .int 0, .int 0])), (p1, .inr (6, [.int pg, .ref p2, .ref p3]))] ++ X) (fun b => b 4 = h0 ∧ b 1 = p1 ∧ b 2 = p2 ∧ b 3 = p3) (fun b => (blO g b s0 ++ [(b 1, .inr (6, [.int pg, .ref (b 2), .ref (b 3)]))]) ++ X) := by
  refine rHeadN hE (by decide +kernel) (Nat.le_of_ble_eq_true rfl) (fun p e s m below meth c C hr hmn hd ls hl => ?_)
  have hx := C.1
  have hb := C.2.1
  have hl : lv_has ls 2 [(0, .ref h0), (1, .ref p1)] := hl
  generalize ([.ref h0, .ref p1] : List Value).toArray = args at C ⊢
  have C : Cx g p s m args meth c cX3_init 2 RX3 := C
  have hmn : meth.name = "<init>" := hmn
  refine lv_aload_n hx hb dX3_init_0 rfl (lv_at hl 0 rfl) ?_
  refine rObj C hl.1 (mT 141 (by decide +kernel)) (mT 29 (by decide +kernel)) (mT 30 (by decide +kernel)) dX3_init_1 ⟨(Nat.le_of_ble_eq_true rfl), (Nat.le_of_ble_eq_true rfl)⟩ ?_
  refine lv_aload_n hx hb dX3_init_4 rfl (lv_at hl 0 rfl) ?_
  refine lv_aload_n hx hb dX3_init_5 rfl (lv_at hl 1 rfl) ?_
  refine rPutF (ws' := ([(h0, .inr (4, [.ref p1, .null, .null, .null, .int 0, .int 0, .int 0, .int 0, .int 0, .int 0, .int 0, .int 0])), (p1, .inr (6, [.int pg, .ref p2, .ref p3]))] ++ X)) C hmn hd 0 rfl rfl inX3 tyX3 tyX3_ok nmX3 0 (by decide) (mT 142 (by decide +kernel)) rfl rfl rfl rfl (Nat.le_of_ble_eq_true rfl) rfl dX3_init_6 (fun H locs hd => ?_)
  refine lv_aload_n hx hb dX3_init_9 rfl (lv_at hl 0 rfl) ?_
  refine lv_aload_n hx hb dX3_init_10 rfl (lv_at hl 1 rfl) ?_
  refine rGetN (host := "RestoreDesk") C hd 1 rfl rfl inX5 1 (by decide) (mT 123 (by decide +kernel)) rfl dX3_init_11 ?_
  refine rPutF (ws' := ([(h0, .inr (4, [.ref p1, .ref p2, .null, .null, .int 0, .int 0, .int 0, .int 0, .int 0, .int 0, .int 0, .int 0])), (p1, .inr (6, [.int pg, .ref p2, .ref p3]))] ++ X)) C hmn hd 0 rfl rfl inX3 tyX3 tyX3_ok nmX3 1 (by decide) (mT 143 (by decide +kernel)) rfl rfl rfl rfl (Nat.le_of_ble_eq_true rfl) rfl dX3_init_14 (fun H locs hd => ?_)
  refine lv_aload_n hx hb dX3_init_17 rfl (lv_at hl 0 rfl) ?_
  refine lv_aload_n hx hb dX3_init_18 rfl (lv_at hl 1 rfl) ?_
  refine rGetN (host := "RestoreDesk") C hd 1 rfl rfl inX5 2 (by decide) (mT 126 (by decide +kernel)) rfl dX3_init_19 ?_
  refine rPutF (ws' := ([(h0, .inr (4, [.ref p1, .ref p2, .ref p3, .null, .int 0, .int 0, .int 0, .int 0, .int 0, .int 0, .int 0, .int 0])), (p1, .inr (6, [.int pg, .ref p2, .ref p3]))] ++ X)) C hmn hd 0 rfl rfl inX3 tyX3 tyX3_ok nmX3 2 (by decide) (mT 144 (by decide +kernel)) rfl rfl rfl rfl (Nat.le_of_ble_eq_true rfl) rfl dX3_init_22 (fun H locs hd => ?_)
  refine lv_aload_n hx hb dX3_init_25 rfl (lv_at hl 0 rfl) ?_
  refine lv_bipush (v := 8) hx hb dX3_init_26 (by decide) ?_
  refine rNewa (atype := .int) (ty := .int) (t0 := 1) (N' := 8) (a0 := (8, .inl (fun _ => 0))) (A := [(h0, .inr (4, [.ref p1, .ref p2, .ref p3, .null, .int 0, .int 0, .int 0, .int 0, .int 0, .int 0, .int 0, .int 0])), (p1, .inr (6, [.int pg, .ref p2, .ref p3]))]) C hd (mT 81 (by decide +kernel)) rfl rfl ra_int (fun _ => rfl) (by decide) (by decide) (Nat.le_of_ble_eq_true rfl) (Nat.le_of_ble_eq_true rfl) (Nat.le_of_ble_eq_true rfl) dX3_init_28 (fun q1 H hd => ?_)
  have hd : Dy g ([(h0, .inr (4, [.ref p1, .ref p2, .ref p3, .null, .int 0, .int 0, .int 0, .int 0, .int 0, .int 0, .int 0, .int 0])), (p1, .inr (6, [.int pg, .ref p2, .ref p3])), (q1, .inl (gc g 1, 8, .inl (fun _ => 0)))] ++ X) s _ _ := hd
  refine rPutF (ws' := ([(h0, .inr (4, [.ref p1, .ref p2, .ref p3, .ref q1, .int 0, .int 0, .int 0, .int 0, .int 0, .int 0, .int 0, .int 0])), (p1, .inr (6, [.int pg, .ref p2, .ref p3])), (q1, .inl (gc g 1, 8, .inl (fun _ => 0)))] ++ X)) C hmn hd 0 rfl rfl inX3 tyX3 tyX3_ok nmX3 3 (by decide) (mT 145 (by decide +kernel)) rfl rfl rfl rfl (Nat.le_of_ble_eq_true rfl) rfl dX3_init_30 (fun H locs hd => ?_)
  refine lv_aload_n hx hb dX3_init_33 rfl (lv_at hl 0 rfl) ?_
  refine lv_iconst (v := (-1 : Int32)) hx hb dX3_init_34 (by decide) ?_
  refine rPutV (ws' := ([(h0, .inr (4, [.ref p1, .ref p2, .ref p3, .ref q1, .int (-1 : Int32), .int 0, .int 0, .int 0, .int 0, .int 0, .int 0, .int 0])), (p1, .inr (6, [.int pg, .ref p2, .ref p3])), (q1, .inl (gc g 1, 8, .inl (fun _ => 0)))] ++ X)) C hd 0 rfl rfl inX3 tyX3 tyX3_ok nmX3 4 (by decide) (mT 146 (by decide +kernel)) rfl rfl rfl (Nat.le_of_ble_eq_true rfl) rfl dX3_init_35 (fun H locs hd => ?_)
  refine lv_aload_n hx hb dX3_init_38 rfl (lv_at hl 0 rfl) ?_
  refine lv_iconst (v := 1) hx hb dX3_init_39 (by decide) ?_
  refine rPutV (ws' := ([(h0, .inr (4, [.ref p1, .ref p2, .ref p3, .ref q1, .int (-1 : Int32), .int 1, .int 0, .int 0, .int 0, .int 0, .int 0, .int 0])), (p1, .inr (6, [.int pg, .ref p2, .ref p3])), (q1, .inl (gc g 1, 8, .inl (fun _ => 0)))] ++ X)) C hd 0 rfl rfl inX3 tyX3 tyX3_ok nmX3 5 (by decide) (mT 147 (by decide +kernel)) rfl rfl rfl (Nat.le_of_ble_eq_true rfl) rfl dX3_init_40 (fun H locs hd => ?_)
  refine lv_aload_n hx hb dX3_init_43 rfl (lv_at hl 0 rfl) ?_
  refine lv_bipush (v := (-2 : Int32)) hx hb dX3_init_44 (by decide) ?_
  refine rPutV (ws' := ([(h0, .inr (4, [.ref p1, .ref p2, .ref p3, .ref q1, .int (-1 : Int32), .int 1, .int (-2 : Int32), .int 0, .int 0, .int 0, .int 0, .int 0])), (p1, .inr (6, [.int pg, .ref p2, .ref p3])), (q1, .inl (gc g 1, 8, .inl (fun _ => 0)))] ++ X)) C hd 0 rfl rfl inX3 tyX3 tyX3_ok nmX3 6 (by decide) (mT 148 (by decide +kernel)) rfl rfl rfl (Nat.le_of_ble_eq_true rfl) rfl dX3_init_46 (fun H locs hd => ?_)
  refine lv_aload_n hx hb dX3_init_49 rfl (lv_at hl 0 rfl) ?_
  refine lv_iconst (v := 0) hx hb dX3_init_50 (by decide) ?_
  refine rPutV (ws' := ([(h0, .inr (4, [.ref p1, .ref p2, .ref p3, .ref q1, .int (-1 : Int32), .int 1, .int (-2 : Int32), .int 0, .int 0, .int 0, .int 0, .int 0])), (p1, .inr (6, [.int pg, .ref p2, .ref p3])), (q1, .inl (gc g 1, 8, .inl (fun _ => 0)))] ++ X)) C hd 0 rfl rfl inX3 tyX3 tyX3_ok nmX3 7 (by decide) (mT 150 (by decide +kernel)) rfl rfl rfl (Nat.le_of_ble_eq_true rfl) rfl dX3_init_51 (fun H locs hd => ?_)
  refine lv_aload_n hx hb dX3_init_54 rfl (lv_at hl 0 rfl) ?_
  refine lv_iconst (v := (-1 : Int32)) hx hb dX3_init_55 (by decide) ?_
  refine rPutV (ws' := ([(h0, .inr (4, [.ref p1, .ref p2, .ref p3, .ref q1, .int (-1 : Int32), .int 1, .int (-2 : Int32), .int 0, .int (-1 : Int32), .int 0, .int 0, .int 0])), (p1, .inr (6, [.int pg, .ref p2, .ref p3])), (q1, .inl (gc g 1, 8, .inl (fun _ => 0)))] ++ X)) C hd 0 rfl rfl inX3 tyX3 tyX3_ok nmX3 8 (by decide) (mT 152 (by decide +kernel)) rfl rfl rfl (Nat.le_of_ble_eq_true rfl) rfl dX3_init_56 (fun H locs hd => ?_)
  refine lv_aload_n hx hb dX3_init_59 rfl (lv_at hl 0 rfl) ?_
  refine lv_iconst (v := (-1 : Int32)) hx hb dX3_init_60 (by decide) ?_
  refine rPutV (ws' := ([(h0, .inr (4, [.ref p1, .ref p2, .ref p3, .ref q1, .int (-1 : Int32), .int 1, .int (-2 : Int32), .int 0, .int (-1 : Int32), .int (-1 : Int32), .int 0, .int 0])), (p1, .inr (6, [.int pg, .ref p2, .ref p3])), (q1, .inl (gc g 1, 8, .inl (fun _ => 0)))] ++ X)) C hd 0 rfl rfl inX3 tyX3 tyX3_ok nmX3 9 (by decide) (mT 154 (by decide +kernel)) rfl rfl rfl (Nat.le_of_ble_eq_true rfl) rfl dX3_init_61 (fun H locs hd => ?_)
  refine lv_aload_n hx hb dX3_init_64 rfl (lv_at hl 0 rfl) ?_
  refine lv_iconst (v := (-1 : Int32)) hx hb dX3_init_65 (by decide) ?_
  refine rPutV (ws' := ([(h0, .inr (4, [.ref p1, .ref p2, .ref p3, .ref q1, .int (-1 : Int32), .int 1, .int (-2 : Int32), .int 0, .int (-1 : Int32), .int (-1 : Int32), .int (-1 : Int32), .int 0])), (p1, .inr (6, [.int pg, .ref p2, .ref p3])), (q1, .inl (gc g 1, 8, .inl (fun _ => 0)))] ++ X)) C hd 0 rfl rfl inX3 tyX3 tyX3_ok nmX3 10 (by decide) (mT 156 (by decide +kernel)) rfl rfl rfl (Nat.le_of_ble_eq_true rfl) rfl dX3_init_66 (fun H locs hd => ?_)
  refine lv_aload_n hx hb dX3_init_69 rfl (lv_at hl 0 rfl) ?_
  refine lv_iconst (v := 1) hx hb dX3_init_70 (by decide) ?_
  refine rPutV (ws' := ([(h0, .inr (4, [.ref p1, .ref p2, .ref p3, .ref q1, .int (-1 : Int32), .int 1, .int (-2 : Int32), .int 0, .int (-1 : Int32), .int (-1 : Int32), .int (-1 : Int32), .int 1])), (p1, .inr (6, [.int pg, .ref p2, .ref p3])), (q1, .inl (gc g 1, 8, .inl (fun _ => 0)))] ++ X)) C hd 0 rfl rfl inX3 tyX3 tyX3_ok nmX3 11 (by decide) (mT 158 (by decide +kernel)) rfl rfl rfl (Nat.le_of_ble_eq_true rfl) rfl dX3_init_71 (fun H locs hd => ?_)
  have hd : Dy g ([(h0, .inr (4, [.ref p1, .ref p2, .ref p3, .ref q1, .int (-1 : Int32), .int 1, .int (-2 : Int32), .int 0, .int (-1 : Int32), .int (-1 : Int32), .int (-1 : Int32), .int 1])), (q1, .inl (gc g 1, 8, .inl (fun _ => 0))), (p1, .inr (6, [.int pg, .ref p2, .ref p3]))] ++ X) s _ _ := Dy.part (A := [(h0, .inr (4, [.ref p1, .ref p2, .ref p3, .ref q1, .int (-1 : Int32), .int 1, .int (-2 : Int32), .int 0, .int (-1 : Int32), .int (-1 : Int32), .int (-1 : Int32), .int 1])), (p1, .inr (6, [.int pg, .ref p2, .ref p3])), (q1, .inl (gc g 1, 8, .inl (fun _ => 0)))]) (A' := [(h0, .inr (4, [.ref p1, .ref p2, .ref p3, .ref q1, .int (-1 : Int32), .int 1, .int (-2 : Int32), .int 0, .int (-1 : Int32), .int (-1 : Int32), .int (-1 : Int32), .int 1])), (q1, .inl (gc g 1, 8, .inl (fun _ => 0))), (p1, .inr (6, [.int pg, .ref p2, .ref p3]))]) hd [0, 2, 1] (by decide) rfl
  refine W.widen (k := 1) (n := 8) (Nat.le_of_ble_eq_true rfl) (Nat.le_of_ble_eq_true rfl) ?_
  exact rVretN (post := fun b => b 4 = h0 ∧ b 1 = p1 ∧ b 2 = p2 ∧ b 3 = p3) (B := fun b => (blO g b s0 ++ [(b 1, .inr (6, [.int pg, .ref (b 2), .ref (b 3)]))]) ++ X) C hr (fun i => if i = 1 then p1 else if i = 2 then p2 else if i = 3 then p3 else if i = 4 then h0 else if i = 25 then q1 else 0) ⟨rfl, rfl, rfl, rfl⟩ hd dX3_init_74

theorem iX5_17 : LKi RX5 17 yX2_init cX2_init 1 0 := ⟨mT 39 (by decide +kernel), mT 40 (by decide +kernel), mT 3 (by decide +kernel), mT 41 (by decide +kernel), ⟨by decide +kernel, by decide +kernel⟩, by decide +kernel, by decide +kernel⟩
theorem iX5_24 : LKi RX5 24 yX0_init cX0_init 1 0 := ⟨mT 85 (by decide +kernel), mT 86 (by decide +kernel), mT 4 (by decide +kernel), mT 87 (by decide +kernel), ⟨by decide +kernel, by decide +kernel⟩, by decide +kernel, by decide +kernel⟩
set_option maxRecDepth 100000 in
set_option maxHeartbeats 4000000 in
theorem c_X5_init {l : Launch} {g : Gp} {X : va_W} (hE : E0 g) {h0 : Nat} : Cn l g yX5_init cX5_init 1 2 16 3082 [.ref h0] ([(h0, .inr (6, [.int 0, .null, .null]))] ++ X) (fun b => b 1 = h0) (fun b => (blS g b s0 ++ blJ g b s0 ++ blC g b s0) ++ X) := by
  refine rHeadN hE (by decide +kernel) (Nat.le_of_ble_eq_true rfl) (fun p e s m below meth c C hr hmn hd ls hl => ?_)
  have hx := C.1
  have hb := C.2.1
  have hl : lv_has ls 1 [(0, .ref h0)] := hl
  generalize ([.ref h0] : List Value).toArray = args at C ⊢
  have C : Cx g p s m args meth c cX5_init 1 RX5 := C
  have hmn : meth.name = "<init>" := hmn
  refine lv_aload_n hx hb dX5_init_0 rfl (lv_at hl 0 rfl) ?_
  refine rObj C hl.1 (mT 36 (by decide +kernel)) (mT 29 (by decide +kernel)) (mT 30 (by decide +kernel)) dX5_init_1 ⟨(Nat.le_of_ble_eq_true rfl), (Nat.le_of_ble_eq_true rfl)⟩ ?_
  refine lv_aload_n hx hb dX5_init_4 rfl (lv_at hl 0 rfl) ?_
  refine lv_iconst (v := 4) hx hb dX5_init_5 (by decide) ?_
  refine rPutV (ws' := ([(h0, .inr (6, [.int 4, .null, .null]))] ++ X)) C hd 0 rfl rfl inX5 tyX5 tyX5_ok nmX5 0 (by decide) (mT 120 (by decide +kernel)) rfl rfl rfl (Nat.le_of_ble_eq_true rfl) rfl dX5_init_6 (fun H locs hd => ?_)
  refine lv_aload_n hx hb dX5_init_9 rfl (lv_at hl 0 rfl) ?_
  refine rNew (Cn := RX2) (T := TX2) (N := 11) (ci := 3) (fs := [.int 0, .int 0, .int 0, .null, .null, .null, .null, .null, .null, .null, .null]) (A := [(h0, .inr (6, [.int 4, .null, .null]))]) C hd rfl inX2 tyX2 tyX2_ok (mT 37 (by decide +kernel)) (mT 38 (by decide +kernel)) (mT 3 (by decide +kernel)) (by decide +kernel) (Nat.le_of_ble_eq_true rfl) (Nat.le_of_ble_eq_true rfl) dX5_init_10 (fun q1 H hd => ?_)
  have hd : Dy g ([(h0, .inr (6, [.int 4, .null, .null])), (q1, .inr (3, [.int 0, .int 0, .int 0, .null, .null, .null, .null, .null, .null, .null, .null]))] ++ X) s _ _ := hd
  refine lv_dup hx hb dX5_init_13 rfl ?_
  have hd : Dy g ([(q1, .inr (3, [.int 0, .int 0, .int 0, .null, .null, .null, .null, .null, .null, .null, .null]))] ++ ([(h0, .inr (6, [.int 4, .null, .null]))] ++ X)) s _ _ := Dy.part (A := [(h0, .inr (6, [.int 4, .null, .null])), (q1, .inr (3, [.int 0, .int 0, .int 0, .null, .null, .null, .null, .null, .null, .null, .null]))]) (A' := [(q1, .inr (3, [.int 0, .int 0, .int 0, .null, .null, .null, .null, .null, .null, .null, .null])), (h0, .inr (6, [.int 4, .null, .null]))]) hd [1, 0] (by decide) rfl
  refine rCallN C hd (c_X2_init hE) iX5_17 rfl hl.1 rfl (Nat.le_of_ble_eq_true rfl) ⟨(Nat.le_of_ble_eq_true rfl), (Nat.le_of_ble_eq_true rfl)⟩ ⟨(Nat.le_of_ble_eq_true rfl), (Nat.le_of_ble_eq_true rfl)⟩ dX5_init_14 (fun b2 H locs hp hd => ?_)
  have hd : Dy g ([(b2 2, .inr (3, [.int 4, .int 1, .int 0, .ref (b2 11), .ref (b2 12), .ref (b2 13), .ref (b2 14), .ref (b2 15), .ref (b2 16), .ref (b2 17), .ref (b2 18)])), (b2 11, .inl (gc g 1, 8, .inl (upd (fun _ => 0) 0 (-2)))), (b2 12, .inl (gc g 1, 8, .inl (fun _ => 0))), (b2 13, .inl (gc g 1, 8, .inl (fun _ => 0))), (b2 14, .inl (gc g 1, 8, .inl (fun _ => 0))), (b2 15, .inl (gc g 0, 600, .inl (fun _ => 0))), (b2 16, .inl (gc g 1, 600, .inl (fun _ => 0))), (b2 17, .inl (gc g 1, 600, .inl (fun _ => 0))), (b2 18, .inl (gc g 0, 960, .inl (fun _ => 0))), (h0, .inr (6, [.int 4, .null, .null]))] ++ X) s _ _ := hd
  have eb2_2 := hp
  simp only [eb2_2] at hd
  have hd : Dy g ([(q1, .inr (3, [.int 4, .int 1, .int 0, .ref (b2 11), .ref (b2 12), .ref (b2 13), .ref (b2 14), .ref (b2 15), .ref (b2 16), .ref (b2 17), .ref (b2 18)])), (b2 11, .inl (gc g 1, 8, .inl (upd (fun _ => 0) 0 (-2)))), (b2 12, .inl (gc g 1, 8, .inl (fun _ => 0))), (b2 13, .inl (gc g 1, 8, .inl (fun _ => 0))), (b2 14, .inl (gc g 1, 8, .inl (fun _ => 0))), (b2 15, .inl (gc g 0, 600, .inl (fun _ => 0))), (b2 16, .inl (gc g 1, 600, .inl (fun _ => 0))), (b2 17, .inl (gc g 1, 600, .inl (fun _ => 0))), (b2 18, .inl (gc g 0, 960, .inl (fun _ => 0))), (h0, .inr (6, [.int 4, .null, .null]))] ++ X) s _ _ := hd
  refine rPutF (ws' := ([(q1, .inr (3, [.int 4, .int 1, .int 0, .ref (b2 11), .ref (b2 12), .ref (b2 13), .ref (b2 14), .ref (b2 15), .ref (b2 16), .ref (b2 17), .ref (b2 18)])), (b2 11, .inl (gc g 1, 8, .inl (upd (fun _ => 0) 0 (-2)))), (b2 12, .inl (gc g 1, 8, .inl (fun _ => 0))), (b2 13, .inl (gc g 1, 8, .inl (fun _ => 0))), (b2 14, .inl (gc g 1, 8, .inl (fun _ => 0))), (b2 15, .inl (gc g 0, 600, .inl (fun _ => 0))), (b2 16, .inl (gc g 1, 600, .inl (fun _ => 0))), (b2 17, .inl (gc g 1, 600, .inl (fun _ => 0))), (b2 18, .inl (gc g 0, 960, .inl (fun _ => 0))), (h0, .inr (6, [.int 4, .ref q1, .null]))] ++ X)) C hmn hd 9 rfl rfl inX5 tyX5 tyX5_ok nmX5 1 (by decide) (mT 124 (by decide +kernel)) rfl rfl rfl rfl (Nat.le_of_ble_eq_true rfl) rfl dX5_init_17 (fun H locs hd => ?_)
  refine lv_aload_n hx hb dX5_init_20 rfl (lv_at hl 0 rfl) ?_
  refine rNew (Cn := RX0) (T := TX0) (N := 9) (ci := 1) (fs := [.int 0, .int 0, .int 0, .null, .null, .null, .null, .null, .null]) (A := [(q1, .inr (3, [.int 4, .int 1, .int 0, .ref (b2 11), .ref (b2 12), .ref (b2 13), .ref (b2 14), .ref (b2 15), .ref (b2 16), .ref (b2 17), .ref (b2 18)])), (b2 11, .inl (gc g 1, 8, .inl (upd (fun _ => 0) 0 (-2)))), (b2 12, .inl (gc g 1, 8, .inl (fun _ => 0))), (b2 13, .inl (gc g 1, 8, .inl (fun _ => 0))), (b2 14, .inl (gc g 1, 8, .inl (fun _ => 0))), (b2 15, .inl (gc g 0, 600, .inl (fun _ => 0))), (b2 16, .inl (gc g 1, 600, .inl (fun _ => 0))), (b2 17, .inl (gc g 1, 600, .inl (fun _ => 0))), (b2 18, .inl (gc g 0, 960, .inl (fun _ => 0))), (h0, .inr (6, [.int 4, .ref q1, .null]))]) C hd rfl inX0 tyX0 tyX0_ok (mT 83 (by decide +kernel)) (mT 84 (by decide +kernel)) (mT 4 (by decide +kernel)) (by decide +kernel) (Nat.le_of_ble_eq_true rfl) (Nat.le_of_ble_eq_true rfl) dX5_init_21 (fun q3 H hd => ?_)
  have hd : Dy g ([(q1, .inr (3, [.int 4, .int 1, .int 0, .ref (b2 11), .ref (b2 12), .ref (b2 13), .ref (b2 14), .ref (b2 15), .ref (b2 16), .ref (b2 17), .ref (b2 18)])), (b2 11, .inl (gc g 1, 8, .inl (upd (fun _ => 0) 0 (-2)))), (b2 12, .inl (gc g 1, 8, .inl (fun _ => 0))), (b2 13, .inl (gc g 1, 8, .inl (fun _ => 0))), (b2 14, .inl (gc g 1, 8, .inl (fun _ => 0))), (b2 15, .inl (gc g 0, 600, .inl (fun _ => 0))), (b2 16, .inl (gc g 1, 600, .inl (fun _ => 0))), (b2 17, .inl (gc g 1, 600, .inl (fun _ => 0))), (b2 18, .inl (gc g 0, 960, .inl (fun _ => 0))), (h0, .inr (6, [.int 4, .ref q1, .null])), (q3, .inr (1, [.int 0, .int 0, .int 0, .null, .null, .null, .null, .null, .null]))] ++ X) s _ _ := hd
  refine lv_dup hx hb dX5_init_24 rfl ?_
  have hd : Dy g ([(q3, .inr (1, [.int 0, .int 0, .int 0, .null, .null, .null, .null, .null, .null]))] ++ ([(q1, .inr (3, [.int 4, .int 1, .int 0, .ref (b2 11), .ref (b2 12), .ref (b2 13), .ref (b2 14), .ref (b2 15), .ref (b2 16), .ref (b2 17), .ref (b2 18)])), (b2 11, .inl (gc g 1, 8, .inl (upd (fun _ => 0) 0 (-2)))), (b2 12, .inl (gc g 1, 8, .inl (fun _ => 0))), (b2 13, .inl (gc g 1, 8, .inl (fun _ => 0))), (b2 14, .inl (gc g 1, 8, .inl (fun _ => 0))), (b2 15, .inl (gc g 0, 600, .inl (fun _ => 0))), (b2 16, .inl (gc g 1, 600, .inl (fun _ => 0))), (b2 17, .inl (gc g 1, 600, .inl (fun _ => 0))), (b2 18, .inl (gc g 0, 960, .inl (fun _ => 0))), (h0, .inr (6, [.int 4, .ref q1, .null]))] ++ X)) s _ _ := Dy.part (A := [(q1, .inr (3, [.int 4, .int 1, .int 0, .ref (b2 11), .ref (b2 12), .ref (b2 13), .ref (b2 14), .ref (b2 15), .ref (b2 16), .ref (b2 17), .ref (b2 18)])), (b2 11, .inl (gc g 1, 8, .inl (upd (fun _ => 0) 0 (-2)))), (b2 12, .inl (gc g 1, 8, .inl (fun _ => 0))), (b2 13, .inl (gc g 1, 8, .inl (fun _ => 0))), (b2 14, .inl (gc g 1, 8, .inl (fun _ => 0))), (b2 15, .inl (gc g 0, 600, .inl (fun _ => 0))), (b2 16, .inl (gc g 1, 600, .inl (fun _ => 0))), (b2 17, .inl (gc g 1, 600, .inl (fun _ => 0))), (b2 18, .inl (gc g 0, 960, .inl (fun _ => 0))), (h0, .inr (6, [.int 4, .ref q1, .null])), (q3, .inr (1, [.int 0, .int 0, .int 0, .null, .null, .null, .null, .null, .null]))]) (A' := [(q3, .inr (1, [.int 0, .int 0, .int 0, .null, .null, .null, .null, .null, .null])), (q1, .inr (3, [.int 4, .int 1, .int 0, .ref (b2 11), .ref (b2 12), .ref (b2 13), .ref (b2 14), .ref (b2 15), .ref (b2 16), .ref (b2 17), .ref (b2 18)])), (b2 11, .inl (gc g 1, 8, .inl (upd (fun _ => 0) 0 (-2)))), (b2 12, .inl (gc g 1, 8, .inl (fun _ => 0))), (b2 13, .inl (gc g 1, 8, .inl (fun _ => 0))), (b2 14, .inl (gc g 1, 8, .inl (fun _ => 0))), (b2 15, .inl (gc g 0, 600, .inl (fun _ => 0))), (b2 16, .inl (gc g 1, 600, .inl (fun _ => 0))), (b2 17, .inl (gc g 1, 600, .inl (fun _ => 0))), (b2 18, .inl (gc g 0, 960, .inl (fun _ => 0))), (h0, .inr (6, [.int 4, .ref q1, .null]))]) hd [10, 0, 1, 2, 3, 4, 5, 6, 7, 8, 9] (by decide) rfl
  refine rCallN C hd (c_X0_init hE) iX5_24 rfl hl.1 rfl (Nat.le_of_ble_eq_true rfl) ⟨(Nat.le_of_ble_eq_true rfl), (Nat.le_of_ble_eq_true rfl)⟩ ⟨(Nat.le_of_ble_eq_true rfl), (Nat.le_of_ble_eq_true rfl)⟩ dX5_init_25 (fun b4 H locs hp hd => ?_)
  have hd : Dy g ([(b4 3, .inr (1, [.int 0, .int 0, .int 0, .ref (b4 19), .ref (b4 20), .ref (b4 21), .ref (b4 22), .ref (b4 23), .ref (b4 24)])), (b4 19, .inl (gc g 1, 10, .inl (fun _ => 0))), (b4 20, .inl (gc g 1, 10, .inl (fun _ => 0))), (b4 21, .inl (gc g 1, 10, .inl (fun _ => 0))), (b4 22, .inl (gc g 1, 80, .inl (fun _ => 0))), (b4 23, .inl (gc g 1, 80, .inl (fun _ => 0))), (b4 24, .inl (gc g 1, 80, .inl (fun _ => 0))), (q1, .inr (3, [.int 4, .int 1, .int 0, .ref (b2 11), .ref (b2 12), .ref (b2 13), .ref (b2 14), .ref (b2 15), .ref (b2 16), .ref (b2 17), .ref (b2 18)])), (b2 11, .inl (gc g 1, 8, .inl (upd (fun _ => 0) 0 (-2)))), (b2 12, .inl (gc g 1, 8, .inl (fun _ => 0))), (b2 13, .inl (gc g 1, 8, .inl (fun _ => 0))), (b2 14, .inl (gc g 1, 8, .inl (fun _ => 0))), (b2 15, .inl (gc g 0, 600, .inl (fun _ => 0))), (b2 16, .inl (gc g 1, 600, .inl (fun _ => 0))), (b2 17, .inl (gc g 1, 600, .inl (fun _ => 0))), (b2 18, .inl (gc g 0, 960, .inl (fun _ => 0))), (h0, .inr (6, [.int 4, .ref q1, .null]))] ++ X) s _ _ := hd
  have eb4_3 := hp
  simp only [eb4_3] at hd
  have hd : Dy g ([(q3, .inr (1, [.int 0, .int 0, .int 0, .ref (b4 19), .ref (b4 20), .ref (b4 21), .ref (b4 22), .ref (b4 23), .ref (b4 24)])), (b4 19, .inl (gc g 1, 10, .inl (fun _ => 0))), (b4 20, .inl (gc g 1, 10, .inl (fun _ => 0))), (b4 21, .inl (gc g 1, 10, .inl (fun _ => 0))), (b4 22, .inl (gc g 1, 80, .inl (fun _ => 0))), (b4 23, .inl (gc g 1, 80, .inl (fun _ => 0))), (b4 24, .inl (gc g 1, 80, .inl (fun _ => 0))), (q1, .inr (3, [.int 4, .int 1, .int 0, .ref (b2 11), .ref (b2 12), .ref (b2 13), .ref (b2 14), .ref (b2 15), .ref (b2 16), .ref (b2 17), .ref (b2 18)])), (b2 11, .inl (gc g 1, 8, .inl (upd (fun _ => 0) 0 (-2)))), (b2 12, .inl (gc g 1, 8, .inl (fun _ => 0))), (b2 13, .inl (gc g 1, 8, .inl (fun _ => 0))), (b2 14, .inl (gc g 1, 8, .inl (fun _ => 0))), (b2 15, .inl (gc g 0, 600, .inl (fun _ => 0))), (b2 16, .inl (gc g 1, 600, .inl (fun _ => 0))), (b2 17, .inl (gc g 1, 600, .inl (fun _ => 0))), (b2 18, .inl (gc g 0, 960, .inl (fun _ => 0))), (h0, .inr (6, [.int 4, .ref q1, .null]))] ++ X) s _ _ := hd
  refine rPutF (ws' := ([(q3, .inr (1, [.int 0, .int 0, .int 0, .ref (b4 19), .ref (b4 20), .ref (b4 21), .ref (b4 22), .ref (b4 23), .ref (b4 24)])), (b4 19, .inl (gc g 1, 10, .inl (fun _ => 0))), (b4 20, .inl (gc g 1, 10, .inl (fun _ => 0))), (b4 21, .inl (gc g 1, 10, .inl (fun _ => 0))), (b4 22, .inl (gc g 1, 80, .inl (fun _ => 0))), (b4 23, .inl (gc g 1, 80, .inl (fun _ => 0))), (b4 24, .inl (gc g 1, 80, .inl (fun _ => 0))), (q1, .inr (3, [.int 4, .int 1, .int 0, .ref (b2 11), .ref (b2 12), .ref (b2 13), .ref (b2 14), .ref (b2 15), .ref (b2 16), .ref (b2 17), .ref (b2 18)])), (b2 11, .inl (gc g 1, 8, .inl (upd (fun _ => 0) 0 (-2)))), (b2 12, .inl (gc g 1, 8, .inl (fun _ => 0))), (b2 13, .inl (gc g 1, 8, .inl (fun _ => 0))), (b2 14, .inl (gc g 1, 8, .inl (fun _ => 0))), (b2 15, .inl (gc g 0, 600, .inl (fun _ => 0))), (b2 16, .inl (gc g 1, 600, .inl (fun _ => 0))), (b2 17, .inl (gc g 1, 600, .inl (fun _ => 0))), (b2 18, .inl (gc g 0, 960, .inl (fun _ => 0))), (h0, .inr (6, [.int 4, .ref q1, .ref q3]))] ++ X)) C hmn hd 16 rfl rfl inX5 tyX5 tyX5_ok nmX5 2 (by decide) (mT 127 (by decide +kernel)) rfl rfl rfl rfl (Nat.le_of_ble_eq_true rfl) rfl dX5_init_28 (fun H locs hd => ?_)
  have hd : Dy g ([(h0, .inr (6, [.int 4, .ref q1, .ref q3])), (q1, .inr (3, [.int 4, .int 1, .int 0, .ref (b2 11), .ref (b2 12), .ref (b2 13), .ref (b2 14), .ref (b2 15), .ref (b2 16), .ref (b2 17), .ref (b2 18)])), (b2 11, .inl (gc g 1, 8, .inl (upd (fun _ => 0) 0 (-2)))), (b2 12, .inl (gc g 1, 8, .inl (fun _ => 0))), (b2 13, .inl (gc g 1, 8, .inl (fun _ => 0))), (b2 14, .inl (gc g 1, 8, .inl (fun _ => 0))), (b2 15, .inl (gc g 0, 600, .inl (fun _ => 0))), (b2 16, .inl (gc g 1, 600, .inl (fun _ => 0))), (b2 17, .inl (gc g 1, 600, .inl (fun _ => 0))), (b2 18, .inl (gc g 0, 960, .inl (fun _ => 0))), (q3, .inr (1, [.int 0, .int 0, .int 0, .ref (b4 19), .ref (b4 20), .ref (b4 21), .ref (b4 22), .ref (b4 23), .ref (b4 24)])), (b4 19, .inl (gc g 1, 10, .inl (fun _ => 0))), (b4 20, .inl (gc g 1, 10, .inl (fun _ => 0))), (b4 21, .inl (gc g 1, 10, .inl (fun _ => 0))), (b4 22, .inl (gc g 1, 80, .inl (fun _ => 0))), (b4 23, .inl (gc g 1, 80, .inl (fun _ => 0))), (b4 24, .inl (gc g 1, 80, .inl (fun _ => 0)))] ++ X) s _ _ := Dy.part (A := [(q3, .inr (1, [.int 0, .int 0, .int 0, .ref (b4 19), .ref (b4 20), .ref (b4 21), .ref (b4 22), .ref (b4 23), .ref (b4 24)])), (b4 19, .inl (gc g 1, 10, .inl (fun _ => 0))), (b4 20, .inl (gc g 1, 10, .inl (fun _ => 0))), (b4 21, .inl (gc g 1, 10, .inl (fun _ => 0))), (b4 22, .inl (gc g 1, 80, .inl (fun _ => 0))), (b4 23, .inl (gc g 1, 80, .inl (fun _ => 0))), (b4 24, .inl (gc g 1, 80, .inl (fun _ => 0))), (q1, .inr (3, [.int 4, .int 1, .int 0, .ref (b2 11), .ref (b2 12), .ref (b2 13), .ref (b2 14), .ref (b2 15), .ref (b2 16), .ref (b2 17), .ref (b2 18)])), (b2 11, .inl (gc g 1, 8, .inl (upd (fun _ => 0) 0 (-2)))), (b2 12, .inl (gc g 1, 8, .inl (fun _ => 0))), (b2 13, .inl (gc g 1, 8, .inl (fun _ => 0))), (b2 14, .inl (gc g 1, 8, .inl (fun _ => 0))), (b2 15, .inl (gc g 0, 600, .inl (fun _ => 0))), (b2 16, .inl (gc g 1, 600, .inl (fun _ => 0))), (b2 17, .inl (gc g 1, 600, .inl (fun _ => 0))), (b2 18, .inl (gc g 0, 960, .inl (fun _ => 0))), (h0, .inr (6, [.int 4, .ref q1, .ref q3]))]) (A' := [(h0, .inr (6, [.int 4, .ref q1, .ref q3])), (q1, .inr (3, [.int 4, .int 1, .int 0, .ref (b2 11), .ref (b2 12), .ref (b2 13), .ref (b2 14), .ref (b2 15), .ref (b2 16), .ref (b2 17), .ref (b2 18)])), (b2 11, .inl (gc g 1, 8, .inl (upd (fun _ => 0) 0 (-2)))), (b2 12, .inl (gc g 1, 8, .inl (fun _ => 0))), (b2 13, .inl (gc g 1, 8, .inl (fun _ => 0))), (b2 14, .inl (gc g 1, 8, .inl (fun _ => 0))), (b2 15, .inl (gc g 0, 600, .inl (fun _ => 0))), (b2 16, .inl (gc g 1, 600, .inl (fun _ => 0))), (b2 17, .inl (gc g 1, 600, .inl (fun _ => 0))), (b2 18, .inl (gc g 0, 960, .inl (fun _ => 0))), (q3, .inr (1, [.int 0, .int 0, .int 0, .ref (b4 19), .ref (b4 20), .ref (b4 21), .ref (b4 22), .ref (b4 23), .ref (b4 24)])), (b4 19, .inl (gc g 1, 10, .inl (fun _ => 0))), (b4 20, .inl (gc g 1, 10, .inl (fun _ => 0))), (b4 21, .inl (gc g 1, 10, .inl (fun _ => 0))), (b4 22, .inl (gc g 1, 80, .inl (fun _ => 0))), (b4 23, .inl (gc g 1, 80, .inl (fun _ => 0))), (b4 24, .inl (gc g 1, 80, .inl (fun _ => 0)))]) hd [16, 7, 8, 9, 10, 11, 12, 13, 14, 15, 0, 1, 2, 3, 4, 5, 6] (by decide) rfl
  refine W.widen (k := 16) (n := 3082) (Nat.le_of_ble_eq_true rfl) (Nat.le_of_ble_eq_true rfl) ?_
  exact rVretN (post := fun b => b 1 = h0) (B := fun b => (blS g b s0 ++ blJ g b s0 ++ blC g b s0) ++ X) C hr (fun i => if i = 1 then h0 else if i = 2 then q1 else if i = 3 then q3 else if i = 11 then b2 11 else if i = 12 then b2 12 else if i = 13 then b2 13 else if i = 14 then b2 14 else if i = 15 then b2 15 else if i = 16 then b2 16 else if i = 17 then b2 17 else if i = 18 then b2 18 else if i = 19 then b4 19 else if i = 20 then b4 20 else if i = 21 then b4 21 else if i = 22 then b4 22 else if i = 23 then b4 23 else if i = 24 then b4 24 else 0) rfl hd dX5_init_31

set_option maxRecDepth 100000 in
set_option maxHeartbeats 4000000 in
theorem c_J5_init_d00df {l : Launch} {g : Gp} {X : va_W} (hE : E0 g) {h0 : Nat} : Cn l g yJ5_init_d00df cJ5_init_d00df 2 1 1 16 [.ref h0, .int 16] ([(h0, .inr (0, [.null, .int 0, .int 0, .int 0]))] ++ X) (fun b => b 8 = h0) (fun b => (blB g b s0) ++ X) := by
  refine rHeadN hE (by decide +kernel) (Nat.le_of_ble_eq_true rfl) (fun p e s m below meth c C hr hmn hd ls hl => ?_)
  have hx := C.1
  have hb := C.2.1
  have hl : lv_has ls 2 [(0, .ref h0), (1, .int 16)] := hl
  generalize ([.ref h0, .int 16] : List Value).toArray = args at C ⊢
  have C : Cx g p s m args meth c cJ5_init_d00df 2 RJ5 := C
  have hmn : meth.name = "<init>" := hmn
  refine lv_aload_n hx hb dJ5_init_d00df_0 rfl (lv_at hl 0 rfl) ?_
  refine rObj C hl.1 (mT 290 (by decide +kernel)) (mT 29 (by decide +kernel)) (mT 30 (by decide +kernel)) dJ5_init_d00df_1 ⟨(Nat.le_of_ble_eq_true rfl), (Nat.le_of_ble_eq_true rfl)⟩ ?_
  refine rCS C hd (mT 291 (by decide +kernel)) dJ5_init_d00df_4 ?_
  refine lv_if_eq (tgt := 25) hx hb dJ5_init_d00df_7 (by decide) (fun c1 => absurd c1 (by decide)) (fun _ => ?_)
  refine lv_aload_n hx hb dJ5_init_d00df_10 rfl (lv_at hl 0 rfl) ?_
  refine lv_iload_n hx hb dJ5_init_d00df_11 rfl (lv_at hl 1 rfl) ?_
  refine rNewa (atype := .byte) (ty := .byte) (t0 := 0) (N' := 16) (a0 := (16, .inl (fun _ => 0))) (A := [(h0, .inr (0, [.null, .int 0, .int 0, .int 0]))]) C hd (mT 82 (by decide +kernel)) rfl rfl ra_byte (fun _ => rfl) (by decide) (by decide) (Nat.le_of_ble_eq_true rfl) (Nat.le_of_ble_eq_true rfl) (Nat.le_of_ble_eq_true rfl) dJ5_init_d00df_12 (fun q1 H hd => ?_)
  have hd : Dy g ([(h0, .inr (0, [.null, .int 0, .int 0, .int 0])), (q1, .inl (gc g 0, 16, .inl (fun _ => 0)))] ++ X) s _ _ := hd
  refine rPutV (ws' := ([(h0, .inr (0, [.ref q1, .int 0, .int 0, .int 0])), (q1, .inl (gc g 0, 16, .inl (fun _ => 0)))] ++ X)) C hd 0 rfl rfl inJ4 tyJ4 tyJ4_ok nmJ4 0 (by decide) (mT 300 (by decide +kernel)) rfl rfl rfl (Nat.le_of_ble_eq_true rfl) rfl dJ5_init_d00df_14 (fun H locs hd => ?_)
  refine lv_aload_n hx hb dJ5_init_d00df_17 rfl (lv_at hl 0 rfl) ?_
  refine lv_iconst (v := 0) hx hb dJ5_init_d00df_18 (by decide) ?_
  refine rPutV (ws' := ([(h0, .inr (0, [.ref q1, .int 0, .int 0, .int 0])), (q1, .inl (gc g 0, 16, .inl (fun _ => 0)))] ++ X)) C hd 0 rfl rfl inJ4 tyJ4 tyJ4_ok nmJ4 1 (by decide) (mT 301 (by decide +kernel)) rfl rfl rfl (Nat.le_of_ble_eq_true rfl) rfl dJ5_init_d00df_19 (fun H locs hd => ?_)
  refine lv_goto (tgt := 38) hx hb dJ5_init_d00df_22 (by decide) ?_
  refine W.widen (k := 1) (n := 16) (Nat.le_of_ble_eq_true rfl) (Nat.le_of_ble_eq_true rfl) ?_
  exact rVretN (post := fun b => b 8 = h0) (B := fun b => (blB g b s0) ++ X) C hr (fun i => if i = 8 then h0 else if i = 33 then q1 else 0) rfl hd dJ5_init_d00df_38

