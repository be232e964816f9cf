section J
variable {p : Program} {l : Launch} {e : Env} {R : Room} {s : State} {m : MethodId} {args : Array Value} {below : List Frame} {meth : Method} {c : Code} {H : Heap} {locs : List Loc} {cells slots : Nat} {Q : State → Prop}
variable {g : Gp} {cc : ByteArray} {pc nL : Nat} {ls : Array Slot} {rest : List Value} {a : Nat} {ws ws' : va_W} {own : String}
theorem strS (C : Cx g p s m args meth c cc nL own) : vk_S 6 lenS bytS (fun i => ga g (100 + i)) (fun i => ga g (110 + i)) (gA g) s s.heap := by
  obtain ⟨hx, hb, hml, hown, hlocks, hts, hK, hSt, hE⟩ := C
  exact (vk_S.moved hSt.1.alike hE.2.2.2.2.1).kept (hSt.kept hE)
theorem rStrV {i index : Nat} (C : Cx g p s m args meth c cc nL own) (hd : Dy g ws s H locs) (hi : i < 6) (hlk : Cond.fieldLink own index "java/lang/String" "value" "[B" ∈ lw_tbl) (hdg : decode cc pc = .ok (.getfield index, 3))
    (kk : W p l e R s m args below meth c H locs cells slots Q (F0 m (pc + 3) ls (.ref (ga g (110 + i)) :: rest))) : W p l e R s m args below meth c H locs cells slots Q (F0 m pc ls (.ref (ga g (100 + i)) :: rest)) :=
  vk_getf C.1 C.2.1 ((strS C).1 i hi).2.2.1 hd.2.2 C.2.2.2.1 (C.2.2.2.2.2.1 _ hlk rfl) (fun _ h => h) hdg kk
theorem rStrC {i index : Nat} (C : Cx g p s m args meth c cc nL own) (hd : Dy g ws s H locs) (hi : i < 6) (hlk : Cond.fieldLink own index "java/lang/String" "coder" "B" ∈ lw_tbl) (hdg : decode cc pc = .ok (.getfield index, 3))
    (kk : W p l e R s m args below meth c H locs cells slots Q (F0 m (pc + 3) ls (.int 0 :: rest))) : W p l e R s m args below meth c H locs cells slots Q (F0 m pc ls (.ref (ga g (100 + i)) :: rest)) :=
  vk_getf C.1 C.2.1 ((strS C).1 i hi).2.1 hd.2.2 C.2.2.2.1 (C.2.2.2.2.2.1 _ hlk rfl) (fun _ h => h) hdg kk
theorem rStrLd {i : Nat} {x : Int32} (C : Cx g p s m args meth c cc nL own) (hd : Dy g ws s H locs) (hi : i < 6) (hin : vp_in x (lenS.getD i 0)) (hdg : decode cc pc = .ok (.baload, 1))
    (kk : W p l e R s m args below meth c H locs cells slots Q (F0 m (pc + 1) ls (.int ((bytS.getD i []).getD x.toNatClampNeg 0) :: rest))) : W p l e R s m args below meth c H locs cells slots Q (F0 m pc ls (.int x :: .ref (ga g (110 + i)) :: rest)) :=
  va_tb C.1 C.2.1 ((strS C).1 i hi).2.2.2 hd.2.2 hin rfl hdg kk
theorem rStrLen {i : Nat} (C : Cx g p s m args meth c cc nL own) (hd : Dy g ws s H locs) (hi : i < 6) (hdg : decode cc pc = .ok (.arraylength, 1))
    (kk : W p l e R s m args below meth c H locs cells slots Q (F0 m (pc + 1) ls (.int (Int32.ofNat (lenS.getD i 0)) :: rest))) : W p l e R s m args below meth c H locs cells slots Q (F0 m pc ls (.ref (ga g (110 + i)) :: rest)) :=
  va_tlen C.1 C.2.1 ((strS C).1 i hi).2.2.2 hd.2.2 rfl hdg kk
theorem csZ (C : Cx g p s m args meth c cc nL own) : va_Z "java/lang/String" "COMPACT_STRINGS" "Z" (.int 1) (gA g) s s.heap := by
  obtain ⟨hx, hb, hml, hown, hlocks, hts, hK, hSt, hE⟩ := C
  have hn := flat_of_before _ hE.2.1
  exact (va_Z.moved hSt.1.alike (va_Zof (hE.1 _ (mT 292 (by decide +kernel))) (hE.1 (.initialized "java/lang/String") (mT 11 (by decide +kernel))) (va_eqi (hn (.eq (.static "java/lang/String" "COMPACT_STRINGS" "Z") (.int 1)) (by decide +kernel))) hE.out)).kept (hSt.kept hE)
theorem rCS {index : Nat} (C : Cx g p s m args meth c cc nL own) (hd : Dy g ws s H locs) (hlk : Cond.fieldLink own index "java/lang/String" "COMPACT_STRINGS" "Z" ∈ lw_tbl) (hdg : decode cc pc = .ok (.getstatic index, 3))
    (kk : W p l e R s m args below meth c H locs cells slots Q (F0 m (pc + 3) ls (.int 1 :: rest))) : W p l e R s m args below meth c H locs cells slots Q (F0 m pc ls rest) :=
  va_gets C.1 C.2.1 (csZ C) hd.2.2 C.2.2.2.1 (C.2.2.2.2.2.1 _ hlk rfl) (fun _ h => h) hdg kk
theorem rLdcS {i index : Nat} {tx : String} (C : Cx g p s m args meth c cc nL own) (hi : i < 6) (htm : tmS i = .string own index) (hlk : Cond.stringRef own index tx ∈ lw_tbl) (hdg : decode cc pc = .ok (.ldc index, 2))
    (kk : W p l e R s m args below meth c H locs cells slots Q (F0 m (pc + 2) ls (.ref (ga g (100 + i)) :: rest))) : W p l e R s m args below meth c H locs cells slots Q (F0 m pc ls rest) := by
  obtain ⟨hx, hb, hml, hown, hlocks, hts, hK, hSt, hE⟩ := C
  have h2 := hE.2.2.2.2.2 i hi
  rw [htm] at h2
  exact va_ldcS hx hb hown (vk_R.warm hSt.1 (vk_R.of (hE.1 _ hlk) h2)) hdg kk
/-- a call on one of the class's texts -/
theorem rCallSt {y : MethodName} {bytes : ByteArray} {n nn index d i : Nat} {ret : Option FieldType} {As st0 : List Value} {r : Int32} (C : Cx g p s m args meth c cc nL own) (hd : Dy g ws s H locs) (hi : i < 6) (hM : Ci l g y bytes n ret d (.ref (ga g (100 + i)) :: As) ws r ws') (hk : LKv own index y bytes n ret nn) (hq : "java/lang/String" = y.cls)
    (hn : As.length = nn) (hsz : ls.size = nL) (hst : st0 = As.reverse ++ .ref (ga g (100 + i)) :: rest) (hro : (rest.map fun v => v.category).sum ≤ 8) (hR : d + 1 ≤ R.frames ∧ 8 + (n + 11) + 40 * d ≤ R.locals) (hcs : cells ≤ R.cells ∧ slots ≤ R.slots) (hdg : decode cc pc = .ok (.invokevirtual index, 3))
    (kk : ∀ (H1 : Heap) (locs1 : List Loc), Dy g ws' s H1 locs1 → W p l e R s m args below meth c H1 locs1 cells slots Q (F0 m (pc + 3) ls (.int r :: rest))) : W p l e R s m args below meth c H locs cells slots Q (F0 m pc ls st0) := by
  subst hst
  have hB := lkB (R := R) C hk.1 hk.2.2.2.1 hk.2.2.2.2.1 hk.2.2.2.2.2.1 hk.2.2.2.2.2.2 hR
  have hrc := vk_recv (i := i) (strS C) hi hd.2.2
  obtain ⟨hx, hb, hml, hown, hlocks, hts, hK, hSt, hE⟩ := C
  refine va_calli (va_runV (Ts := []) (As := As) (rest := rest) ⟨hx, hb, hml, hown, fun _ h => by cases h⟩ hM ⟨hB, hts _ hk.2.1 rfl, hts _ hk.2.2.1 rfl⟩ ⟨Pw.blind, by rw [← hq]; exact hrc, fun U hU hW => ⟨rfl, hd.pw hSt hU hW⟩⟩ rfl hn hsz rfl (lv_room hro) hdg ⟨hcs.1, hcs.2⟩) hd.2.2 (fun _ _ h => h) (fun _ h => h) (fun r1 u t H1 locs1 ht hvm hw hB1 hz1 hk1 hS => ?_)
  subst hw
  exact kk H1 locs1 ⟨by rw [← ht]; exact hB1.1, hB1.2.1, hS⟩
theorem rCallSV {y : MethodName} {bytes : ByteArray} {n nn index d : Nat} {As st0 : List Value} (C : Cx g p s m args meth c cc nL own) (hd : Dy g ws s H locs) (hM : Cv l g y bytes n d As ws ws') (hk : LKs own index y bytes n none nn)
    (hn : As.length = nn) (hsz : ls.size = nL) (hst : st0 = As.reverse ++ rest) (hro : (rest.map fun v => v.category).sum ≤ 8) (hR : d + 1 ≤ R.frames ∧ 8 + (n + 11) + 40 * d ≤ R.locals) (hcs : cells ≤ R.cells ∧ slots ≤ R.slots) (hdg : decode cc pc = .ok (.invokestatic index, 3))
    (kk : ∀ (H1 : Heap) (locs1 : List Loc), Dy g ws' s H1 locs1 → W p l e R s m args below meth c H1 locs1 cells slots Q (F0 m (pc + 3) ls rest)) : W p l e R s m args below meth c H locs cells slots Q (F0 m pc ls st0) := by
  subst hst
  have hB := lkB (R := R) C hk.1 hk.2.2.1 hk.2.2.2.1 hk.2.2.2.2.1 hk.2.2.2.2.2 hR
  obtain ⟨hx, hb, hml, hown, hlocks, hts, hK, hSt, hE⟩ := C
  refine va_callv (va_runS (Ts := []) (As := As) (rest := rest) ⟨hx, hb, hml, hown, fun _ h => by cases h⟩ hM ⟨hB, hts _ hk.2.1 rfl⟩ ⟨Pw.blind, fun U hU hW => ⟨rfl, hd.pw hSt hU hW⟩⟩ rfl hn hsz rfl (lv_room hro) hdg ⟨hcs.1, hcs.2⟩) hd.2.2 (fun _ _ h => h) (fun _ h => h) (fun u t H1 locs1 ht hvm hw hB1 hz1 hk1 hS => ?_)
  exact kk H1 locs1 ⟨by rw [← ht]; exact hB1.1, hB1.2.1, hS⟩
/-- an answer that is a char or a byte -/
def idC (v : Int32) : Bool := decide (v = UInt32.toInt32 (Int32.toUInt32 v % 65536))
def idB (v : Int32) : Bool := decide (v = Int8.toInt32 (Int32.toInt8 v))
theorem narC {v : Int32} (h : idC v = true) : narrow .char (.int v) = .int v := by
  have h1 : v = UInt32.toInt32 (Int32.toUInt32 v % 65536) := of_decide_eq_true h
  show Value.int _ = _
  exact congrArg Value.int h1.symm
theorem narB {v : Int32} (h : idB v = true) : narrow .byte (.int v) = .int v := by
  have h1 : v = Int8.toInt32 (Int32.toInt8 v) := of_decide_eq_true h
  show Value.int _ = _
  exact congrArg Value.int h1.symm
theorem rNretP {v r : Int32} {ty : FieldType} (C : Cx g p s m args meth c cc nL own) (hr : meth.sig.returnType = some ty) (hd : Dy g ws s H locs) (h : some v = some r) (hn : narrow ty (.int v) = .int v) (hdg : decode cc pc = .ok (.ireturn, 1)) : W p l e R s m args below meth c H locs 0 0 (QI g below args s ws r) (F0 m pc ls [.int v]) := by
  cases h
  obtain ⟨hx, hb, hml, hown, hlocks, hts, hK, hSt, hE⟩ := C
  exact W.zret hx hb hr hn (fun t ht hW => ⟨⟨v, (), rfl, rfl, hd.pw hSt ht hW⟩, hd.2.2.F ht⟩) hd.2.2.2.2 hdg hlocks
theorem fmtZ (C : Cx g p s m args meth c cc nL own) : va_Zq "jdk/internal/util/Preconditions" "SIOOBE_FORMATTER" "Ljava/util/function/BiFunction;" (gA g) s s.heap := by
  obtain ⟨hx, hb, hml, hown, hlocks, hts, hK, hSt, hE⟩ := C
  have hn := flat_of_before _ hE.2.1
  exact (va_Zq.moved hSt.1.alike (va_Zqof (hE.1 _ (mT 420 (by decide +kernel))) (hE.1 (.initialized "jdk/internal/util/Preconditions") (mT 16 (by decide +kernel))) (hn (.isRef (.static "jdk/internal/util/Preconditions" "SIOOBE_FORMATTER" "Ljava/util/function/BiFunction;")) (by decide +kernel)) hE.out)).kept (hSt.kept hE)
end J
noncomputable def f_J0_checkIndex_df160 (F : Nat) (σ : St) (x0 x1 : Int32) : Option Unit := if x0 < 0 then none else if x0 < x1 then some () else none
theorem kJ0_1059 : LKs RJ0 1059 yJ3_checkIndex_8e157 cJ3_checkIndex_8e157 3 (some .int) 3 := ⟨mT 421 (by decide +kernel), mT 422 (by decide +kernel), mT 16 (by decide +kernel), mT 423 (by decide +kernel), ⟨by decide +kernel, by decide +kernel⟩, by decide +kernel⟩
set_option maxRecDepth 100000 in
set_option maxHeartbeats 4000000 in
theorem c_J3_checkIndex_8e157 {l : Launch} {g : Gp} {ws : va_W} (hE : E0 g) {x n : Int32} {v : Value} (hv : v = .null ∨ ∃ t, v = .ref t) (h1 : ¬ x < 0) (h2 : x < n) : Ci l g yJ3_checkIndex_8e157 cJ3_checkIndex_8e157 3 (some .int) 0 [.int x, .int n, v] ws x ws := by
  rcases hv with rfl | ⟨t, rfl⟩
  · refine rHead hE (by decide +kernel) (Nat.le_of_ble_eq_true rfl) (fun p e s m below meth c C hr _ hd ls hl => ?_)
    have hx := C.1
    have hb := C.2.1
    have hl : lv_has ls 3 [(0, .int x), (1, .int n), (2, .null)] := hl
    generalize ([.int x, .int n, .null] : List Value).toArray = args at C ⊢
    refine lv_iload_n hx hb dJ3_checkIndex_8e157_0 rfl (lv_at hl 0 rfl) ?_
    refine lv_if_lt (tgt := 9) hx hb dJ3_checkIndex_8e157_1 (by decide) (fun c1 => absurd c1 h1) (fun c1 => ?_)
    refine lv_iload_n hx hb dJ3_checkIndex_8e157_4 rfl (lv_at hl 0 rfl) ?_
    refine lv_iload_n hx hb dJ3_checkIndex_8e157_5 rfl (lv_at hl 1 rfl) ?_
    refine lv_icmp_lt (tgt := 16) hx hb dJ3_checkIndex_8e157_6 (by decide) (fun c2 => ?_) (fun c2 => absurd h2 c2)
    refine lv_iload_n hx hb dJ3_checkIndex_8e157_16 rfl (lv_at hl 0 rfl) ?_
    exact rIretP C hr hd rfl dJ3_checkIndex_8e157_17
  · refine rHead hE (by decide +kernel) (Nat.le_of_ble_eq_true rfl) (fun p e s m below meth c C hr _ hd ls hl => ?_)
    have hx := C.1
    have hb := C.2.1
    have hl : lv_has ls 3 [(0, .int x), (1, .int n), (2, .ref t)] := hl
    generalize ([.int x, .int n, .ref t] : List Value).toArray = args at C ⊢
    refine lv_iload_n hx hb dJ3_checkIndex_8e157_0 rfl (lv_at hl 0 rfl) ?_
    refine lv_if_lt (tgt := 9) hx hb dJ3_checkIndex_8e157_1 (by decide) (fun c1 => absurd c1 h1) (fun c1 => ?_)
    refine lv_iload_n hx hb dJ3_checkIndex_8e157_4 rfl (lv_at hl 0 rfl) ?_
    refine lv_iload_n hx hb dJ3_checkIndex_8e157_5 rfl (lv_at hl 1 rfl) ?_
    refine lv_icmp_lt (tgt := 16) hx hb dJ3_checkIndex_8e157_6 (by decide) (fun c2 => ?_) (fun c2 => absurd h2 c2)
    refine lv_iload_n hx hb dJ3_checkIndex_8e157_16 rfl (lv_at hl 0 rfl) ?_
    exact rIretP C hr hd rfl dJ3_checkIndex_8e157_17
set_option maxRecDepth 100000 in
set_option maxHeartbeats 4000000 in
theorem c_J0_checkIndex_df160 {l : Launch} {g : Gp} {X : va_W} (hE : E0 g) {F : Nat} {σ : St} {x0 x1 : Int32} {z : Unit} (h : f_J0_checkIndex_df160 F σ x0 x1 = some z) : Cv l g yJ0_checkIndex_df160 cJ0_checkIndex_df160 2 1 [.int x0, .int x1] (wD g σ ++ X) (wD g σ ++ X) := by
  refine rHead hE (by decide +kernel) (Nat.le_of_ble_eq_true rfl) (fun p e s m below meth c C hr _ hd ls hl => ?_)
  have hx := C.1
  have hb := C.2.1
  have hl : lv_has ls 2 [(0, .int x0), (1, .int x1)] := hl
  generalize ([.int x0, .int x1] : List Value).toArray = args at C ⊢
  have C : Cx g p s m args meth c cJ0_checkIndex_df160 2 RJ0 := C
  rw [f_J0_checkIndex_df160] at h
  have h1 : ¬ x0 < 0 := fun q => by rw [if_pos q] at h; cases h
  rw [if_neg h1] at h
  obtain ⟨h2, h⟩ := chk h
  refine lv_iload_n hx hb dJ0_checkIndex_df160_0 rfl (lv_at hl 0 rfl) ?_
  refine lv_iload_n hx hb dJ0_checkIndex_df160_1 rfl (lv_at hl 1 rfl) ?_
  rcases fmtZ C with hZ | ⟨t, hZ⟩
  · refine va_gets hx hb hZ hd.2.2 C.2.2.2.1 (C.2.2.2.2.2.1 (.fieldLink RJ0 1053 "jdk/internal/util/Preconditions" "SIOOBE_FORMATTER" "Ljava/util/function/BiFunction;") (mT 419 (by decide +kernel)) rfl) (fun _ h => h) dJ0_checkIndex_df160_2 ?_
    refine rCallSI C hd (c_J3_checkIndex_8e157 hE (Or.inl rfl) h1 h2) kJ0_1059 rfl hl.1 rfl (Nat.le_of_ble_eq_true rfl) ⟨Nat.le_of_ble_eq_true rfl, Nat.le_of_ble_eq_true rfl⟩ ⟨Nat.le_refl _, Nat.le_refl _⟩ dJ0_checkIndex_df160_5 (fun H locs hd => ?_)
    refine lv_pop hx hb dJ0_checkIndex_df160_8 rfl ?_
    exact rVret C hr hd dJ0_checkIndex_df160_9
  · refine va_gets hx hb hZ hd.2.2 C.2.2.2.1 (C.2.2.2.2.2.1 (.fieldLink RJ0 1053 "jdk/internal/util/Preconditions" "SIOOBE_FORMATTER" "Ljava/util/function/BiFunction;") (mT 419 (by decide +kernel)) rfl) (fun _ h => h) dJ0_checkIndex_df160_2 ?_
    refine rCallSI C hd (c_J3_checkIndex_8e157 hE (Or.inr ⟨t, rfl⟩) h1 h2) kJ0_1059 rfl hl.1 rfl (Nat.le_of_ble_eq_true rfl) ⟨Nat.le_of_ble_eq_true rfl, Nat.le_of_ble_eq_true rfl⟩ ⟨Nat.le_refl _, Nat.le_refl _⟩ dJ0_checkIndex_df160_5 (fun H locs hd => ?_)
    refine lv_pop hx hb dJ0_checkIndex_df160_8 rfl ?_
    exact rVret C hr hd dJ0_checkIndex_df160_9
