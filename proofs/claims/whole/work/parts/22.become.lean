def blS (g : Gp) (b : Nat → Nat) (σ : St) : va_W := [(b 1, .inr (6, [.int (σ.1 4), .ref (b 2), .ref (b 3)]))]
def blJ (g : Gp) (b : Nat → Nat) (σ : St) : va_W := [(b 2, .inr (3, [.int (σ.1 5), .int (σ.1 6), .int (σ.1 7), .ref (b 11), .ref (b 12), .ref (b 13), .ref (b 14), .ref (b 15), .ref (b 16), .ref (b 17), .ref (b 18)])), (b 11, .inl (gc g 1, 8, .inl (σ.2.1 11))), (b 12, .inl (gc g 1, 8, .inl (σ.2.1 12))), (b 13, .inl (gc g 1, 8, .inl (σ.2.1 13))), (b 14, .inl (gc g 1, 8, .inl (σ.2.1 14))), (b 15, .inl (gc g 0, 600, .inl (σ.2.1 15))), (b 16, .inl (gc g 1, 600, .inl (σ.2.1 16))), (b 17, .inl (gc g 1, 600, .inl (σ.2.1 17))), (b 18, .inl (gc g 0, 960, .inl (σ.2.1 18)))]
def blC (g : Gp) (b : Nat → Nat) (σ : St) : va_W := [(b 3, .inr (1, [.int (σ.1 8), .int (σ.1 9), .int (σ.1 10), .ref (b 19), .ref (b 20), .ref (b 21), .ref (b 22), .ref (b 23), .ref (b 24)])), (b 19, .inl (gc g 1, 10, .inl (σ.2.1 19))), (b 20, .inl (gc g 1, 10, .inl (σ.2.1 20))), (b 21, .inl (gc g 1, 10, .inl (σ.2.1 21))), (b 22, .inl (gc g 1, 80, .inl (σ.2.1 22))), (b 23, .inl (gc g 1, 80, .inl (σ.2.1 23))), (b 24, .inl (gc g 1, 80, .inl (σ.2.1 24)))]
def blA (g : Gp) (b : Nat → Nat) (σ : St) : va_W := blS g b σ ++ (blJ g b σ ++ blC g b σ)
def cpJ (σ σ1 : St) : St := (sw (sw (sw (sw (sw (sw (sw (sw (ss (ss (ss σ 5 (σ1.1 5)) 6 (σ1.1 6)) 7 (σ1.1 7)) 11 (σ1.2.1 11)) 12 (σ1.2.1 12)) 13 (σ1.2.1 13)) 14 (σ1.2.1 14)) 15 (σ1.2.1 15)) 16 (σ1.2.1 16)) 17 (σ1.2.1 17)) 18 (σ1.2.1 18))
def cpC (σ σ1 : St) : St := (sw (sw (sw (sw (sw (sw (ss (ss (ss σ 8 (σ1.1 8)) 9 (σ1.1 9)) 10 (σ1.1 10)) 19 (σ1.2.1 19)) 20 (σ1.2.1 20)) 21 (σ1.2.1 21)) 22 (σ1.2.1 22)) 23 (σ1.2.1 23)) 24 (σ1.2.1 24))
def cpA (σ σ1 : St) : St := cpC (cpJ (ss σ 4 (σ1.1 4)) σ1) σ1
/-- what a copied row of bytes needs -/
def fitB (σ : St) : Prop := (∀ i, i < 600 → fits .byte (.int (σ.2.1 15 i)) = true) ∧ ∀ i, i < 960 → fits .byte (.int (σ.2.1 18 i)) = true
set_option maxRecDepth 100000 in
set_option maxHeartbeats 4000000 in
theorem c_X0_become {l : Launch} {g : Gp} {X : va_W} (hE : E0 g) {b b' : Nat → Nat} {σ σ1 : St} : Cv l g yX0_become cX0_become 2 2 [.ref (b 3), .ref (b' 3)] ((blC g b σ ++ blC g b' σ1) ++ X) ((blC g b (cpC σ σ1) ++ blC g b' σ1) ++ X) := by
  refine rHead hE (by decide +kernel) (Nat.le_of_ble_eq_true rfl) (fun p e s m below meth c C hr _ hd ls hl => ?_)
  have hx := C.1
  have hb := C.2.1
  have hl : lv_has ls 2 [(0, .ref (b 3)), (1, .ref (b' 3))] := hl
  generalize ([.ref (b 3), .ref (b' 3)] : List Value).toArray = args at C ⊢
  have C : Cx g p s m args meth c cX0_become 2 RX0 := C
  refine lv_aload_n hx hb dX0_become_0 rfl (lv_at hl 0 rfl) ?_
  refine lv_aload_n hx hb dX0_become_1 rfl (lv_at hl 1 rfl) ?_
  refine rGet C hd 7 rfl rfl inX0 0 (by decide) (mT 89 (by decide +kernel)) rfl dX0_become_2 ?_
  obtain ⟨t1, et1⟩ : ∃ z, z = ss σ 8 (σ1.1 8) := ⟨_, rfl⟩
  refine rPut (ws' := ((blC g b t1 ++ blC g b' σ1) ++ X)) C hd 0 rfl rfl inX0 tyX0 tyX0_ok nmX0 0 (by decide) (mT 89 (by decide +kernel)) rfl rfl (Nat.le_of_ble_eq_true rfl) (by subst et1; rfl) dX0_become_5 (fun H locs hd => ?_)
  refine lv_aload_n hx hb dX0_become_8 rfl (lv_at hl 0 rfl) ?_
  refine lv_aload_n hx hb dX0_become_9 rfl (lv_at hl 1 rfl) ?_
  refine rGet C hd 7 rfl rfl inX0 1 (by decide) (mT 91 (by decide +kernel)) rfl dX0_become_10 ?_
  obtain ⟨t2, et2⟩ : ∃ z, z = ss t1 9 (σ1.1 9) := ⟨_, rfl⟩
  refine rPut (ws' := ((blC g b t2 ++ blC g b' σ1) ++ X)) C hd 0 rfl rfl inX0 tyX0 tyX0_ok nmX0 1 (by decide) (mT 91 (by decide +kernel)) rfl rfl (Nat.le_of_ble_eq_true rfl) (by subst et2; rfl) dX0_become_13 (fun H locs hd => ?_)
  refine lv_aload_n hx hb dX0_become_16 rfl (lv_at hl 0 rfl) ?_
  refine lv_aload_n hx hb dX0_become_17 rfl (lv_at hl 1 rfl) ?_
  refine rGet C hd 7 rfl rfl inX0 2 (by decide) (mT 93 (by decide +kernel)) rfl dX0_become_18 ?_
  obtain ⟨t3, et3⟩ : ∃ z, z = ss t2 10 (σ1.1 10) := ⟨_, rfl⟩
  refine rPut (ws' := ((blC g b t3 ++ blC g b' σ1) ++ X)) C hd 0 rfl rfl inX0 tyX0 tyX0_ok nmX0 2 (by decide) (mT 93 (by decide +kernel)) rfl rfl (Nat.le_of_ble_eq_true rfl) (by subst et3; rfl) dX0_become_21 (fun H locs hd => ?_)
  refine lv_aload_n hx hb dX0_become_24 rfl (lv_at hl 1 rfl) ?_
  refine rGet C hd 7 rfl rfl inX0 3 (by decide) (mT 95 (by decide +kernel)) rfl dX0_become_25 ?_
  refine lv_iconst (v := 0) hx hb dX0_become_28 ic_0 ?_
  refine lv_aload_n hx hb dX0_become_29 rfl (lv_at hl 0 rfl) ?_
  refine rGet C hd 0 rfl rfl inX0 3 (by decide) (mT 95 (by decide +kernel)) rfl dX0_become_30 ?_
  refine lv_iconst (v := 0) hx hb dX0_become_33 ic_0 ?_
  refine lv_bipush (v := 10) hx hb dX0_become_34 (by decide) ?_
  obtain ⟨t4, et4⟩ : ∃ z, z = sw t3 19 (σ1.2.1 19) := ⟨_, rfl⟩
  refine rCopyW (t0 := 1) (ty := .int) (ws' := ((blC g b t4 ++ blC g b' σ1) ++ X)) C hd hl.1 8 1 rfl rfl rfl rfl (by decide) (by decide) (fun _ _ => rfl) (by subst et4; rfl) (mT 1284 (by decide +kernel)) ⟨(Nat.le_of_ble_eq_true rfl), (Nat.le_of_ble_eq_true rfl)⟩ dX0_become_36 (fun H locs hd => ?_)
  refine lv_aload_n hx hb dX0_become_39 rfl (lv_at hl 1 rfl) ?_
  refine rGet C hd 7 rfl rfl inX0 4 (by decide) (mT 96 (by decide +kernel)) rfl dX0_become_40 ?_
  refine lv_iconst (v := 0) hx hb dX0_become_43 ic_0 ?_
  refine lv_aload_n hx hb dX0_become_44 rfl (lv_at hl 0 rfl) ?_
  refine rGet C hd 0 rfl rfl inX0 4 (by decide) (mT 96 (by decide +kernel)) rfl dX0_become_45 ?_
  refine lv_iconst (v := 0) hx hb dX0_become_48 ic_0 ?_
  refine lv_bipush (v := 10) hx hb dX0_become_49 (by decide) ?_
  obtain ⟨t5, et5⟩ : ∃ z, z = sw t4 20 (σ1.2.1 20) := ⟨_, rfl⟩
  refine rCopyW (t0 := 1) (ty := .int) (ws' := ((blC g b t5 ++ blC g b' σ1) ++ X)) C hd hl.1 9 2 rfl rfl rfl rfl (by decide) (by decide) (fun _ _ => rfl) (by subst et5; rfl) (mT 1284 (by decide +kernel)) ⟨(Nat.le_of_ble_eq_true rfl), (Nat.le_of_ble_eq_true rfl)⟩ dX0_become_51 (fun H locs hd => ?_)
  refine lv_aload_n hx hb dX0_become_54 rfl (lv_at hl 1 rfl) ?_
  refine rGet C hd 7 rfl rfl inX0 5 (by decide) (mT 97 (by decide +kernel)) rfl dX0_become_55 ?_
  refine lv_iconst (v := 0) hx hb dX0_become_58 ic_0 ?_
  refine lv_aload_n hx hb dX0_become_59 rfl (lv_at hl 0 rfl) ?_
  refine rGet C hd 0 rfl rfl inX0 5 (by decide) (mT 97 (by decide +kernel)) rfl dX0_become_60 ?_
  refine lv_iconst (v := 0) hx hb dX0_become_63 ic_0 ?_
  refine lv_bipush (v := 10) hx hb dX0_become_64 (by decide) ?_
  obtain ⟨t6, et6⟩ : ∃ z, z = sw t5 21 (σ1.2.1 21) := ⟨_, rfl⟩
  refine rCopyW (t0 := 1) (ty := .int) (ws' := ((blC g b t6 ++ blC g b' σ1) ++ X)) C hd hl.1 10 3 rfl rfl rfl rfl (by decide) (by decide) (fun _ _ => rfl) (by subst et6; rfl) (mT 1284 (by decide +kernel)) ⟨(Nat.le_of_ble_eq_true rfl), (Nat.le_of_ble_eq_true rfl)⟩ dX0_become_66 (fun H locs hd => ?_)
  refine lv_aload_n hx hb dX0_become_69 rfl (lv_at hl 1 rfl) ?_
  refine rGet C hd 7 rfl rfl inX0 6 (by decide) (mT 98 (by decide +kernel)) rfl dX0_become_70 ?_
  refine lv_iconst (v := 0) hx hb dX0_become_73 ic_0 ?_
  refine lv_aload_n hx hb dX0_become_74 rfl (lv_at hl 0 rfl) ?_
  refine rGet C hd 0 rfl rfl inX0 6 (by decide) (mT 98 (by decide +kernel)) rfl dX0_become_75 ?_
  refine lv_iconst (v := 0) hx hb dX0_become_78 ic_0 ?_
  refine lv_bipush (v := 80) hx hb dX0_become_79 (by decide) ?_
  obtain ⟨t7, et7⟩ : ∃ z, z = sw t6 22 (σ1.2.1 22) := ⟨_, rfl⟩
  refine rCopyW (t0 := 1) (ty := .int) (ws' := ((blC g b t7 ++ blC g b' σ1) ++ X)) C hd hl.1 11 4 rfl rfl rfl rfl (by decide) (by decide) (fun _ _ => rfl) (by subst et7; rfl) (mT 1284 (by decide +kernel)) ⟨(Nat.le_of_ble_eq_true rfl), (Nat.le_of_ble_eq_true rfl)⟩ dX0_become_81 (fun H locs hd => ?_)
  refine lv_aload_n hx hb dX0_become_84 rfl (lv_at hl 1 rfl) ?_
  refine rGet C hd 7 rfl rfl inX0 7 (by decide) (mT 99 (by decide +kernel)) rfl dX0_become_85 ?_
  refine lv_iconst (v := 0) hx hb dX0_become_88 ic_0 ?_
  refine lv_aload_n hx hb dX0_become_89 rfl (lv_at hl 0 rfl) ?_
  refine rGet C hd 0 rfl rfl inX0 7 (by decide) (mT 99 (by decide +kernel)) rfl dX0_become_90 ?_
  refine lv_iconst (v := 0) hx hb dX0_become_93 ic_0 ?_
  refine lv_bipush (v := 80) hx hb dX0_become_94 (by decide) ?_
  obtain ⟨t8, et8⟩ : ∃ z, z = sw t7 23 (σ1.2.1 23) := ⟨_, rfl⟩
  refine rCopyW (t0 := 1) (ty := .int) (ws' := ((blC g b t8 ++ blC g b' σ1) ++ X)) C hd hl.1 12 5 rfl rfl rfl rfl (by decide) (by decide) (fun _ _ => rfl) (by subst et8; rfl) (mT 1284 (by decide +kernel)) ⟨(Nat.le_of_ble_eq_true rfl), (Nat.le_of_ble_eq_true rfl)⟩ dX0_become_96 (fun H locs hd => ?_)
  refine lv_aload_n hx hb dX0_become_99 rfl (lv_at hl 1 rfl) ?_
  refine rGet C hd 7 rfl rfl inX0 8 (by decide) (mT 100 (by decide +kernel)) rfl dX0_become_100 ?_
  refine lv_iconst (v := 0) hx hb dX0_become_103 ic_0 ?_
  refine lv_aload_n hx hb dX0_become_104 rfl (lv_at hl 0 rfl) ?_
  refine rGet C hd 0 rfl rfl inX0 8 (by decide) (mT 100 (by decide +kernel)) rfl dX0_become_105 ?_
  refine lv_iconst (v := 0) hx hb dX0_become_108 ic_0 ?_
  refine lv_bipush (v := 80) hx hb dX0_become_109 (by decide) ?_
  obtain ⟨t9, et9⟩ : ∃ z, z = sw t8 24 (σ1.2.1 24) := ⟨_, rfl⟩
  refine rCopyW (t0 := 1) (ty := .int) (ws' := ((blC g b t9 ++ blC g b' σ1) ++ X)) C hd hl.1 13 6 rfl rfl rfl rfl (by decide) (by decide) (fun _ _ => rfl) (by subst et9; rfl) (mT 1284 (by decide +kernel)) ⟨(Nat.le_of_ble_eq_true rfl), (Nat.le_of_ble_eq_true rfl)⟩ dX0_become_111 (fun H locs hd => ?_)
  have hq : t9 = cpC σ σ1 := by subst et9; subst et8; subst et7; subst et6; subst et5; subst et4; subst et3; subst et2; subst et1; rfl
  rw [hq] at hd
  exact rVret C hr hd dX0_become_114
set_option maxRecDepth 100000 in
set_option maxHeartbeats 4000000 in
theorem c_X2_become {l : Launch} {g : Gp} {X : va_W} (hE : E0 g) {b b' : Nat → Nat} {σ σ1 : St} (hf : fitB σ1) : Cv l g yX2_become cX2_become 2 2 [.ref (b 2), .ref (b' 2)] ((blJ g b σ ++ blJ g b' σ1) ++ X) ((blJ g b (cpJ σ σ1) ++ blJ g b' σ1) ++ X) := by
  refine rHead hE (by decide +kernel) (Nat.le_of_ble_eq_true rfl) (fun p e s m below meth c C hr _ hd ls hl => ?_)
  have hx := C.1
  have hb := C.2.1
  have hl : lv_has ls 2 [(0, .ref (b 2)), (1, .ref (b' 2))] := hl
  generalize ([.ref (b 2), .ref (b' 2)] : List Value).toArray = args at C ⊢
  have C : Cx g p s m args meth c cX2_become 2 RX2 := C
  refine lv_aload_n hx hb dX2_become_0 rfl (lv_at hl 0 rfl) ?_
  refine lv_aload_n hx hb dX2_become_1 rfl (lv_at hl 1 rfl) ?_
  refine rGet C hd 9 rfl rfl inX2 0 (by decide) (mT 43 (by decide +kernel)) rfl dX2_become_2 ?_
  obtain ⟨t1, et1⟩ : ∃ z, z = ss σ 5 (σ1.1 5) := ⟨_, rfl⟩
  refine rPut (ws' := ((blJ g b t1 ++ blJ g b' σ1) ++ X)) C hd 0 rfl rfl inX2 tyX2 tyX2_ok nmX2 0 (by decide) (mT 43 (by decide +kernel)) rfl rfl (Nat.le_of_ble_eq_true rfl) (by subst et1; rfl) dX2_become_5 (fun H locs hd => ?_)
  refine lv_aload_n hx hb dX2_become_8 rfl (lv_at hl 0 rfl) ?_
  refine lv_aload_n hx hb dX2_become_9 rfl (lv_at hl 1 rfl) ?_
  refine rGet C hd 9 rfl rfl inX2 1 (by decide) (mT 46 (by decide +kernel)) rfl dX2_become_10 ?_
  obtain ⟨t2, et2⟩ : ∃ z, z = ss t1 6 (σ1.1 6) := ⟨_, rfl⟩
  refine rPut (ws' := ((blJ g b t2 ++ blJ g b' σ1) ++ X)) C hd 0 rfl rfl inX2 tyX2 tyX2_ok nmX2 1 (by decide) (mT 46 (by decide +kernel)) rfl rfl (Nat.le_of_ble_eq_true rfl) (by subst et2; rfl) dX2_become_13 (fun H locs hd => ?_)
  refine lv_aload_n hx hb dX2_become_16 rfl (lv_at hl 0 rfl) ?_
  refine lv_aload_n hx hb dX2_become_17 rfl (lv_at hl 1 rfl) ?_
  refine rGet C hd 9 rfl rfl inX2 2 (by decide) (mT 48 (by decide +kernel)) rfl dX2_become_18 ?_
  obtain ⟨t3, et3⟩ : ∃ z, z = ss t2 7 (σ1.1 7) := ⟨_, rfl⟩
  refine rPut (ws' := ((blJ g b t3 ++ blJ g b' σ1) ++ X)) C hd 0 rfl rfl inX2 tyX2 tyX2_ok nmX2 2 (by decide) (mT 48 (by decide +kernel)) rfl rfl (Nat.le_of_ble_eq_true rfl) (by subst et3; rfl) dX2_become_21 (fun H locs hd => ?_)
  refine lv_aload_n hx hb dX2_become_24 rfl (lv_at hl 1 rfl) ?_
  refine rGet C hd 9 rfl rfl inX2 3 (by decide) (mT 50 (by decide +kernel)) rfl dX2_become_25 ?_
  refine lv_iconst (v := 0) hx hb dX2_become_28 ic_0 ?_
  refine lv_aload_n hx hb dX2_become_29 rfl (lv_at hl 0 rfl) ?_
  refine rGet C hd 0 rfl rfl inX2 3 (by decide) (mT 50 (by decide +kernel)) rfl dX2_become_30 ?_
  refine lv_iconst (v := 0) hx hb dX2_become_33 ic_0 ?_
  refine lv_bipush (v := 8) hx hb dX2_become_34 (by decide) ?_
  obtain ⟨t4, et4⟩ : ∃ z, z = sw t3 11 (σ1.2.1 11) := ⟨_, rfl⟩
  refine rCopyW (t0 := 1) (ty := .int) (ws' := ((blJ g b t4 ++ blJ g b' σ1) ++ X)) C hd hl.1 10 1 rfl rfl rfl rfl (by decide) (by decide) (fun _ _ => rfl) (by subst et4; rfl) (mT 1279 (by decide +kernel)) ⟨(Nat.le_of_ble_eq_true rfl), (Nat.le_of_ble_eq_true rfl)⟩ dX2_become_36 (fun H locs hd => ?_)
  refine lv_aload_n hx hb dX2_become_39 rfl (lv_at hl 1 rfl) ?_
  refine rGet C hd 9 rfl rfl inX2 4 (by decide) (mT 51 (by decide +kernel)) rfl dX2_become_40 ?_
  refine lv_iconst (v := 0) hx hb dX2_become_43 ic_0 ?_
  refine lv_aload_n hx hb dX2_become_44 rfl (lv_at hl 0 rfl) ?_
  refine rGet C hd 0 rfl rfl inX2 4 (by decide) (mT 51 (by decide +kernel)) rfl dX2_become_45 ?_
  refine lv_iconst (v := 0) hx hb dX2_become_48 ic_0 ?_
  refine lv_bipush (v := 8) hx hb dX2_become_49 (by decide) ?_
  obtain ⟨t5, et5⟩ : ∃ z, z = sw t4 12 (σ1.2.1 12) := ⟨_, rfl⟩
  refine rCopyW (t0 := 1) (ty := .int) (ws' := ((blJ g b t5 ++ blJ g b' σ1) ++ X)) C hd hl.1 11 2 rfl rfl rfl rfl (by decide) (by decide) (fun _ _ => rfl) (by subst et5; rfl) (mT 1279 (by decide +kernel)) ⟨(Nat.le_of_ble_eq_true rfl), (Nat.le_of_ble_eq_true rfl)⟩ dX2_become_51 (fun H locs hd => ?_)
  refine lv_aload_n hx hb dX2_become_54 rfl (lv_at hl 1 rfl) ?_
  refine rGet C hd 9 rfl rfl inX2 5 (by decide) (mT 52 (by decide +kernel)) rfl dX2_become_55 ?_
  refine lv_iconst (v := 0) hx hb dX2_become_58 ic_0 ?_
  refine lv_aload_n hx hb dX2_become_59 rfl (lv_at hl 0 rfl) ?_
  refine rGet C hd 0 rfl rfl inX2 5 (by decide) (mT 52 (by decide +kernel)) rfl dX2_become_60 ?_
  refine lv_iconst (v := 0) hx hb dX2_become_63 ic_0 ?_
  refine lv_bipush (v := 8) hx hb dX2_become_64 (by decide) ?_
  obtain ⟨t6, et6⟩ : ∃ z, z = sw t5 13 (σ1.2.1 13) := ⟨_, rfl⟩
  refine rCopyW (t0 := 1) (ty := .int) (ws' := ((blJ g b t6 ++ blJ g b' σ1) ++ X)) C hd hl.1 12 3 rfl rfl rfl rfl (by decide) (by decide) (fun _ _ => rfl) (by subst et6; rfl) (mT 1279 (by decide +kernel)) ⟨(Nat.le_of_ble_eq_true rfl), (Nat.le_of_ble_eq_true rfl)⟩ dX2_become_66 (fun H locs hd => ?_)
  refine lv_aload_n hx hb dX2_become_69 rfl (lv_at hl 1 rfl) ?_
  refine rGet C hd 9 rfl rfl inX2 6 (by decide) (mT 53 (by decide +kernel)) rfl dX2_become_70 ?_
  refine lv_iconst (v := 0) hx hb dX2_become_73 ic_0 ?_
  refine lv_aload_n hx hb dX2_become_74 rfl (lv_at hl 0 rfl) ?_
  refine rGet C hd 0 rfl rfl inX2 6 (by decide) (mT 53 (by decide +kernel)) rfl dX2_become_75 ?_
  refine lv_iconst (v := 0) hx hb dX2_become_78 ic_0 ?_
  refine lv_bipush (v := 8) hx hb dX2_become_79 (by decide) ?_
  obtain ⟨t7, et7⟩ : ∃ z, z = sw t6 14 (σ1.2.1 14) := ⟨_, rfl⟩
  refine rCopyW (t0 := 1) (ty := .int) (ws' := ((blJ g b t7 ++ blJ g b' σ1) ++ X)) C hd hl.1 13 4 rfl rfl rfl rfl (by decide) (by decide) (fun _ _ => rfl) (by subst et7; rfl) (mT 1279 (by decide +kernel)) ⟨(Nat.le_of_ble_eq_true rfl), (Nat.le_of_ble_eq_true rfl)⟩ dX2_become_81 (fun H locs hd => ?_)
  refine lv_aload_n hx hb dX2_become_84 rfl (lv_at hl 1 rfl) ?_
  refine rGet C hd 9 rfl rfl inX2 7 (by decide) (mT 54 (by decide +kernel)) rfl dX2_become_85 ?_
  refine lv_iconst (v := 0) hx hb dX2_become_88 ic_0 ?_
  refine lv_aload_n hx hb dX2_become_89 rfl (lv_at hl 0 rfl) ?_
  refine rGet C hd 0 rfl rfl inX2 7 (by decide) (mT 54 (by decide +kernel)) rfl dX2_become_90 ?_
  refine lv_iconst (v := 0) hx hb dX2_become_93 ic_0 ?_
  refine lv_sipush (v := 600) hx hb dX2_become_94 (by decide) ?_
  obtain ⟨t8, et8⟩ : ∃ z, z = sw t7 15 (σ1.2.1 15) := ⟨_, rfl⟩
  refine rCopyW (t0 := 0) (ty := .byte) (ws' := ((blJ g b t8 ++ blJ g b' σ1) ++ X)) C hd hl.1 14 5 rfl rfl rfl rfl (by decide) (by decide) hf.1 (by subst et8; rfl) (mT 1279 (by decide +kernel)) ⟨(Nat.le_of_ble_eq_true rfl), (Nat.le_of_ble_eq_true rfl)⟩ dX2_become_97 (fun H locs hd => ?_)
  refine lv_aload_n hx hb dX2_become_100 rfl (lv_at hl 1 rfl) ?_
  refine rGet C hd 9 rfl rfl inX2 8 (by decide) (mT 55 (by decide +kernel)) rfl dX2_become_101 ?_
  refine lv_iconst (v := 0) hx hb dX2_become_104 ic_0 ?_
  refine lv_aload_n hx hb dX2_become_105 rfl (lv_at hl 0 rfl) ?_
  refine rGet C hd 0 rfl rfl inX2 8 (by decide) (mT 55 (by decide +kernel)) rfl dX2_become_106 ?_
  refine lv_iconst (v := 0) hx hb dX2_become_109 ic_0 ?_
  refine lv_sipush (v := 600) hx hb dX2_become_110 (by decide) ?_
  obtain ⟨t9, et9⟩ : ∃ z, z = sw t8 16 (σ1.2.1 16) := ⟨_, rfl⟩
  refine rCopyW (t0 := 1) (ty := .int) (ws' := ((blJ g b t9 ++ blJ g b' σ1) ++ X)) C hd hl.1 15 6 rfl rfl rfl rfl (by decide) (by decide) (fun _ _ => rfl) (by subst et9; rfl) (mT 1279 (by decide +kernel)) ⟨(Nat.le_of_ble_eq_true rfl), (Nat.le_of_ble_eq_true rfl)⟩ dX2_become_113 (fun H locs hd => ?_)
  refine lv_aload_n hx hb dX2_become_116 rfl (lv_at hl 1 rfl) ?_
  refine rGet C hd 9 rfl rfl inX2 9 (by decide) (mT 56 (by decide +kernel)) rfl dX2_become_117 ?_
  refine lv_iconst (v := 0) hx hb dX2_become_120 ic_0 ?_
  refine lv_aload_n hx hb dX2_become_121 rfl (lv_at hl 0 rfl) ?_
  refine rGet C hd 0 rfl rfl inX2 9 (by decide) (mT 56 (by decide +kernel)) rfl dX2_become_122 ?_
  refine lv_iconst (v := 0) hx hb dX2_become_125 ic_0 ?_
  refine lv_sipush (v := 600) hx hb dX2_become_126 (by decide) ?_
  obtain ⟨t10, et10⟩ : ∃ z, z = sw t9 17 (σ1.2.1 17) := ⟨_, rfl⟩
  refine rCopyW (t0 := 1) (ty := .int) (ws' := ((blJ g b t10 ++ blJ g b' σ1) ++ X)) C hd hl.1 16 7 rfl rfl rfl rfl (by decide) (by decide) (fun _ _ => rfl) (by subst et10; rfl) (mT 1279 (by decide +kernel)) ⟨(Nat.le_of_ble_eq_true rfl), (Nat.le_of_ble_eq_true rfl)⟩ dX2_become_129 (fun H locs hd => ?_)
  refine lv_aload_n hx hb dX2_become_132 rfl (lv_at hl 1 rfl) ?_
  refine rGet C hd 9 rfl rfl inX2 10 (by decide) (mT 57 (by decide +kernel)) rfl dX2_become_133 ?_
  refine lv_iconst (v := 0) hx hb dX2_become_136 ic_0 ?_
  refine lv_aload_n hx hb dX2_become_137 rfl (lv_at hl 0 rfl) ?_
  refine rGet C hd 0 rfl rfl inX2 10 (by decide) (mT 57 (by decide +kernel)) rfl dX2_become_138 ?_
  refine lv_iconst (v := 0) hx hb dX2_become_141 ic_0 ?_
  refine lv_sipush (v := 960) hx hb dX2_become_142 (by decide) ?_
  obtain ⟨t11, et11⟩ : ∃ z, z = sw t10 18 (σ1.2.1 18) := ⟨_, rfl⟩
  refine rCopyW (t0 := 0) (ty := .byte) (ws' := ((blJ g b t11 ++ blJ g b' σ1) ++ X)) C hd hl.1 17 8 rfl rfl rfl rfl (by decide) (by decide) hf.2 (by subst et11; rfl) (mT 1279 (by decide +kernel)) ⟨(Nat.le_of_ble_eq_true rfl), (Nat.le_of_ble_eq_true rfl)⟩ dX2_become_145 (fun H locs hd => ?_)
  have hq : t11 = cpJ σ σ1 := by subst et11; subst et10; subst et9; subst et8; subst et7; subst et6; subst et5; subst et4; subst et3; subst et2; subst et1; rfl
  rw [hq] at hd
  exact rVret C hr hd dX2_become_148
theorem kX5_36 : LKv RX5 36 yX2_become cX2_become 2 none 1 := ⟨mT 1275 (by decide +kernel), mT 1276 (by decide +kernel), mT 1277 (by decide +kernel), mT 3 (by decide +kernel), mT 1278 (by decide +kernel), ⟨by decide +kernel, by decide +kernel⟩, by decide +kernel⟩
theorem kX5_40 : LKv RX5 40 yX0_become cX0_become 2 none 1 := ⟨mT 1280 (by decide +kernel), mT 1281 (by decide +kernel), mT 1282 (by decide +kernel), mT 4 (by decide +kernel), mT 1283 (by decide +kernel), ⟨by decide +kernel, by decide +kernel⟩, by decide +kernel⟩
set_option maxRecDepth 100000 in
set_option maxHeartbeats 4000000 in
theorem c_X5_become {l : Launch} {g : Gp} {X : va_W} (hE : E0 g) {b b' : Nat → Nat} {σ σ1 : St} (hf : fitB σ1) : Cv l g yX5_become cX5_become 2 3 [.ref (b 1), .ref (b' 1)] ((blA g b σ ++ blA g b' σ1) ++ X) ((blA g b (cpA σ σ1) ++ blA g b' σ1) ++ X) := by
  refine rHead hE (by decide +kernel) (Nat.le_of_ble_eq_true rfl) (fun p e s m below meth c C hr _ hd ls hl => ?_)
  have hx := C.1
  have hb := C.2.1
  have hl : lv_has ls 2 [(0, .ref (b 1)), (1, .ref (b' 1))] := hl
  generalize ([.ref (b 1), .ref (b' 1)] : List Value).toArray = args at C ⊢
  have C : Cx g p s m args meth c cX5_become 2 RX5 := C
  refine lv_aload_n hx hb dX5_become_0 rfl (lv_at hl 0 rfl) ?_
  refine lv_aload_n hx hb dX5_become_1 rfl (lv_at hl 1 rfl) ?_
  refine rGet C hd 17 rfl rfl inX5 0 (by decide) (mT 120 (by decide +kernel)) rfl dX5_become_2 ?_
  obtain ⟨t1, et1⟩ : ∃ z, z = ss σ 4 (σ1.1 4) := ⟨_, rfl⟩
  refine rPut (ws' := ((blA g b t1 ++ blA g b' σ1) ++ X)) C hd 0 rfl rfl inX5 tyX5 tyX5_ok nmX5 0 (by decide) (mT 120 (by decide +kernel)) rfl rfl (Nat.le_of_ble_eq_true rfl) (by subst et1; rfl) dX5_become_5 (fun H locs hd => ?_)
  have hd : Dy g ((blJ g b t1 ++ blJ g b' σ1) ++ ((blS g b t1 ++ blC g b t1 ++ (blS g b' σ1 ++ blC g b' σ1)) ++ X)) s H locs := Dy.part (A := blA g b t1 ++ blA g b' σ1) (A' := (blJ g b t1 ++ blJ g b' σ1) ++ (blS g b t1 ++ blC g b t1 ++ (blS g b' σ1 ++ blC g b' σ1))) hd [1, 2, 3, 4, 5, 6, 7, 8, 9, 18, 19, 20, 21, 22, 23, 24, 25, 26, 0, 10, 11, 12, 13, 14, 15, 16, 17, 27, 28, 29, 30, 31, 32, 33] (by decide) rfl
  refine lv_aload_n hx hb dX5_become_8 rfl (lv_at hl 0 rfl) ?_
  refine rGet C hd 18 rfl rfl inX5 1 (by decide) (mT 124 (by decide +kernel)) rfl dX5_become_9 ?_
  refine lv_aload_n hx hb dX5_become_12 rfl (lv_at hl 1 rfl) ?_
  refine rGet C hd 26 rfl rfl inX5 1 (by decide) (mT 124 (by decide +kernel)) rfl dX5_become_13 ?_
  refine rCallV C hd (c_X2_become hE hf) kX5_36 0 rfl rfl rfl rfl hl.1 rfl (Nat.le_of_ble_eq_true rfl) ⟨(Nat.le_of_ble_eq_true rfl), (Nat.le_of_ble_eq_true rfl)⟩ ⟨Nat.le_refl _, Nat.le_refl _⟩ dX5_become_16 (fun H locs hd => ?_)
  obtain ⟨t2, et2⟩ : ∃ z, z = cpJ t1 σ1 := ⟨_, rfl⟩
  have hd : Dy g ((blJ g b t2 ++ blJ g b' σ1) ++ ((blS g b t2 ++ blC g b t2 ++ (blS g b' σ1 ++ blC g b' σ1)) ++ X)) s H locs := by subst et2; exact hd
  have hd : Dy g ((blC g b t2 ++ blC g b' σ1) ++ ((blS g b t2 ++ blJ g b t2 ++ (blS g b' σ1 ++ blJ g b' σ1)) ++ X)) s H locs := Dy.part (A := (blJ g b t2 ++ blJ g b' σ1) ++ (blS g b t2 ++ blC g b t2 ++ (blS g b' σ1 ++ blC g b' σ1))) (A' := (blC g b t2 ++ blC g b' σ1) ++ (blS g b t2 ++ blJ g b t2 ++ (blS g b' σ1 ++ blJ g b' σ1))) hd [19, 20, 21, 22, 23, 24, 25, 27, 28, 29, 30, 31, 32, 33, 18, 0, 1, 2, 3, 4, 5, 6, 7, 8, 26, 9, 10, 11, 12, 13, 14, 15, 16, 17] (by decide) rfl
  refine lv_aload_n hx hb dX5_become_19 rfl (lv_at hl 0 rfl) ?_
  refine rGet C hd 14 rfl rfl inX5 2 (by decide) (mT 127 (by decide +kernel)) rfl dX5_become_20 ?_
  refine lv_aload_n hx hb dX5_become_23 rfl (lv_at hl 1 rfl) ?_
  refine rGet C hd 24 rfl rfl inX5 2 (by decide) (mT 127 (by decide +kernel)) rfl dX5_become_24 ?_
  refine rCallV C hd (c_X0_become hE) kX5_40 0 rfl rfl rfl rfl hl.1 rfl (Nat.le_of_ble_eq_true rfl) ⟨(Nat.le_of_ble_eq_true rfl), (Nat.le_of_ble_eq_true rfl)⟩ ⟨Nat.le_refl _, Nat.le_refl _⟩ dX5_become_27 (fun H locs hd => ?_)
  obtain ⟨t3, et3⟩ : ∃ z, z = cpC t2 σ1 := ⟨_, rfl⟩
  have hd : Dy g ((blC g b t3 ++ blC g b' σ1) ++ ((blS g b t3 ++ blJ g b t3 ++ (blS g b' σ1 ++ blJ g b' σ1)) ++ X)) s H locs := by subst et3; exact hd
  have hd : Dy g ((blA g b t3 ++ blA g b' σ1) ++ X) s H locs := Dy.part (A := (blC g b t3 ++ blC g b' σ1) ++ (blS g b t3 ++ blJ g b t3 ++ (blS g b' σ1 ++ blJ g b' σ1))) (A' := blA g b t3 ++ blA g b' σ1) hd [14, 15, 16, 17, 18, 19, 20, 21, 22, 23, 0, 1, 2, 3, 4, 5, 6, 24, 25, 26, 27, 28, 29, 30, 31, 32, 33, 7, 8, 9, 10, 11, 12, 13] (by decide) rfl
  have hq : t3 = cpA σ σ1 := by rw [et3, et2, et1]; rfl
  rw [hq] at hd
  exact rVret C hr hd dX5_become_30
