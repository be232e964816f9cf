/-! CONSTRUCTORS: rows that make cells -/
def rmN (d mc ms : Nat) : Room := { frames := d, cells := mc, slots := ms, locals := 40 * d }
theorem rHeadN {l : Launch} {g : Gp} {y : MethodName} {cc : ByteArray} {n d mc ms : Nat} {ret : Option FieldType} {As : List Value} {ws : va_W} {Qc : Array Value → State → Outcome → State → Prop} (hE : E0 g) (hy : plainName y.cls = true) (hn : (lg_sl As).length ≤ n)
    (body : ∀ (p : Program) (e : Env) (s : State) (m : MethodId) (below : List Frame) (meth : Method) (c : Code), Cx g p s m As.toArray meth c cc n y.cls → meth.sig.returnType = ret → meth.name = y.name → Dy g ws s s.heap [] → ∀ ls : Array Slot, lv_has ls n (lv_args 0 As) →
      W p l e (rmN d mc ms) s m As.toArray below meth c s.heap [] 0 0 (MQ below Qc As.toArray s mc ms (gA g)) (F0 m 0 ls [])) : Met l y [.code y cc n ret] (rmN d mc ms) (va_Pc As (Pw g ws)) Qc mc ms (gA g) := by
  refine Met.ofW (cc := cc) (maxL := n) (ret := ret) hy rfl ?_
  intro p e s m args below meth c s₁ B hml hv
  obtain ⟨rfl, hP, hD, hSt⟩ := hv
  rw [lg_entry_eq]
  exact body p e s m below meth c ⟨B.exec, B.bytes, hml, findClass_of_methodNamed B.named, B.notSynchronized, fun w hw hg => word_at hSt.1 (good_of_word hg) (hE.1 w hw), va_K.moved hSt.1.alike hE.2.2.1, hSt, hE⟩ B.returns (name_of_methodNamed B.named B.method).1 ⟨hP, hD, va_S.rf⟩ _ (lv_entry As (n := n) hn)
theorem Dy.snoc {g : Gp} {A X : va_W} {c : Nat × va_E} {s : State} {H : Heap} {locs : List Loc} (h : Dy g ((A ++ X) ++ [c]) s H locs) : Dy g ((A ++ [c]) ++ X) s H locs := by
  refine h.perm ?_
  rw [List.append_assoc, List.append_assoc]
  exact List.Perm.append_left A List.perm_append_comm
section NW
variable {p : Program} {l : Launch} {e : Env} {R : Room} {s : State} {m : MethodId} {args : Array Value} {below : List Frame} {meth : Method} {c : Code} {H : Heap} {locs : List Loc} {cells slots : Nat} {Q : State → Prop}
variable {g : Gp} {cc : ByteArray} {pc nL : Nat} {ls : Array Slot} {rest : List Value} {a : Nat} {ws ws' A X : va_W} {own : String}
theorem rObj {idx : Nat} (C : Cx g p s m args meth c cc nL own) (hsz : ls.size = nL) (h1 : Cond.methodLink own idx Lib.objectInit ∈ lw_tbl) (h2 : Cond.instanceMethod Lib.objectInit ∈ lw_tbl) (h3 : Cond.code Lib.objectInit ⟨#[0xb1]⟩ 1 none ∈ lw_tbl) (hdg : decode cc pc = .ok (.invokespecial idx, 3)) (hro : 1 ≤ R.frames ∧ (rest.map fun v => v.category).sum + 12 ≤ R.locals)
    (kk : W p l e R s m args below meth c H locs cells slots Q (F0 m (pc + 3) ls rest)) : W p l e R s m args below meth c H locs cells slots Q (F0 m pc ls (.ref a :: rest)) := by
  obtain ⟨hx, hb, hml, hown, hlocks, hts, hK, hSt, hE⟩ := C
  exact W.objInit hx hb hown (hts _ h1 rfl) (hts _ h2 rfl) (hts _ h3 rfl) (g := F0 m pc ls (.ref a :: rest)) rfl (hsz.trans hml.symm) rfl hdg hro.1 (by show 2 * 0 + _ + 12 ≤ _; omega) kk
theorem Cx.new (C : Cx g p s m args meth c cc nL own) : ∀ q : Nat, s.heap.size ≤ q → gA g q := by
  obtain ⟨hx, hb, hml, hown, hlocks, hts, hK, hSt, hE⟩ := C
  exact fun q h => Nat.le_trans hSt.2.1 h
theorem rNewa {atype : ArrayType} {ty : FieldType} {t0 N' : Nat} {n : Int32} {a0 : vp_A} (C : Cx g p s m args meth c cc nL own) (hd : Dy g (A ++ X) s H locs) (harr : Cond.arrayClass (newarray.typeOf atype) ∈ lw_tbl) (hty : newarray.typeOf atype = ty) (ht : (gty g)[t0]? = some (gc g t0, ty)) (hpr : ∀ (U : State) (cA : ClassId), va_RA U cA ty → U.vm.findClass ("[" ++ ty.toString) = some cA) (ha : ∀ cA : ClassId, vp_cell cA a0 = arrV cA N' (fun _ => defaultValue ty)) (hn : ¬ n < 0) (hN : n.toNatClampNeg = N') (hbytes : N' * componentBytes ty ≤ 536870912) (hcells : cells + 1 ≤ R.cells) (hslots : slots + N' ≤ R.slots) (hdg : decode cc pc = .ok (.newarray atype, 2))
    (kk : ∀ (q : Nat) (H1 : Heap), Dy g ((A ++ [(q, .inl (gc g t0, a0))]) ++ X) s H1 locs → W p l e R s m args below meth c H1 locs (cells + 1) (slots + N') Q (F0 m (pc + 2) ls (.ref q :: rest))) : W p l e R s m args below meth c H locs cells slots Q (F0 m pc ls (.int n :: rest)) := by
  have hA := C.new
  obtain ⟨hx, hb, hml, hown, hlocks, hts, hK, hSt, hE⟩ := C
  refine va_newa hx hb (atype := atype) (hts _ harr rfl) hty hK hd.1 hd.2.1 hd.2.2 hA ha hn hN hbytes hcells hslots hdg (fun q cA H1 hK1 hP1 hD1 hS1 => ?_)
  have e1 := hpr s cA (hK1.2 (gty g).length (cA, ty) (by rw [List.getElem?_append_right (Nat.le_refl _)]; simp)).2
  have e2 := hpr s (gc g t0) (hK.2 t0 _ ht).2
  have e3 : cA = gc g t0 := Option.some.inj (e1.symm.trans e2)
  subst e3
  exact kk q H1 (Dy.snoc ⟨hP1, hD1, hS1⟩)
theorem rNewq {index N' : Nat} {n : Int32} (C : Cx g p s m args meth c cc nL own) (hd : Dy g (A ++ X) s H locs) (hcl : Cond.classLink own index "RestoreDesk$Store" ∈ lw_tbl) (hov : Cond.arrayOver (.object "RestoreDesk$Store") ∈ lw_tbl) (hn : ¬ n < 0) (hN : n.toNatClampNeg = N') (hbytes : N' * 4 ≤ 536870912) (hcells : cells + 1 ≤ R.cells) (hslots : slots + N' ≤ R.slots) (hdg : decode cc pc = .ok (.anewarray index, 3))
    (kk : ∀ (q : Nat) (H1 : Heap), Dy g ((A ++ [(q, .inl (gc g 4, N', .inr (.inr (.inr (.inr (fun _ => none))))))]) ++ X) s H1 locs → W p l e R s m args below meth c H1 locs (cells + 1) (slots + N') Q (F0 m (pc + 3) ls (.ref q :: rest))) : W p l e R s m args below meth c H locs cells slots Q (F0 m pc ls (.int n :: rest)) := by
  have hA := C.new
  obtain ⟨hx, hb, hml, hown, hlocks, hts, hK, hSt, hE⟩ := C
  refine va_newq hx hb hown (hts _ hcl rfl) (va_AO.moved hSt.1.alike (va_AO.of (hE.1 _ hov))) hK hd.1 hd.2.1 hd.2.2 hA hn hN hbytes hcells hslots hdg (fun q cA H1 hK1 hP1 hD1 hS1 => ?_)
  obtain ⟨_, _, _, _, _, e1⟩ := (hK1.2 (gty g).length (cA, .object "RestoreDesk$Store") (by rw [List.getElem?_append_right (Nat.le_refl _)]; simp)).2
  obtain ⟨_, _, _, _, _, e2⟩ := (hK.2 4 (gc g 4, .object "RestoreDesk$Store") rfl).2
  have e3 : cA = gc g 4 := Option.some.inj (e1.symm.trans e2)
  subst e3
  exact kk q H1 (Dy.snoc ⟨hP1, hD1, hS1⟩)
theorem rNew {Cn : String} {T : u_T} {N ci index : Nat} {fs : List Value} (C : Cx g p s m args meth c cc nL own) (hd : Dy g (A ++ X) s H locs) (hc : vwCl[ci]? = some (Cn, T, N)) (hin : ∀ w ∈ u_ws Cn T N, w ∈ lw_tbl ∧ goodWord w = true) (ty : Nat → FieldType) (hty : ∀ k, k < N → parseFieldDescriptor (T k).2.2.1 = some (ty k)) (hcl : Cond.classLink own index Cn ∈ lw_tbl) (hins : Cond.instantiable Cn N ∈ lw_tbl) (hini : Cond.initialized Cn ∈ lw_tbl) (hfs : ∀ j, j < N → defaultValue (ty j) = vp_V fs j) (hcells : cells + 1 ≤ R.cells) (hslots : slots + N ≤ R.slots) (hdg : decode cc pc = .ok (.new index, 3))
    (kk : ∀ (q : Nat) (H1 : Heap), Dy g ((A ++ [(q, .inr (ci, fs))]) ++ X) s H1 locs → W p l e R s m args below meth c H1 locs (cells + 1) (slots + N) Q (F0 m (pc + 3) ls (.ref q :: rest))) : W p l e R s m args below meth c H locs cells slots Q (F0 m pc ls rest) := by
  have hA := C.new
  obtain ⟨hx, hb, hml, hown, hlocks, hts, hK, hSt, hE⟩ := C
  exact va_new hx hb (Ts := u_ws Cn T N) (fun w h => hts w (hin w h).1 (hin w h).2) (fun _ h => h) ty hty hown (hts _ hcl rfl) (hts _ hins rfl) (hts _ hini rfl) hK hd.1 hd.2.1 hd.2.2 hA hc hfs hcells hslots hdg (fun q H1 hP1 hD1 hS1 => kk q H1 (Dy.snoc ⟨hP1, hD1, hS1⟩))
/-- any final field, in its class's constructor -/
theorem rPutF (C : Cx g p s m args meth c cc nL own) (hmn : meth.name = "<init>") (hd : Dy g ws s H locs) {Cn : String} {T : u_T} {N ci index : Nat} (q0 : Nat) {fs : List Value} (he : ws[q0]? = some (a, .inr (ci, fs))) (hc : vwCl[ci]? = some (Cn, T, N)) (hin : ∀ w ∈ u_ws Cn T N, w ∈ lw_tbl ∧ goodWord w = true) (ty0 : Nat → FieldType) (hty : ∀ k, k < N → parseFieldDescriptor (T k).2.2.1 = some (ty0 k)) (hnm : ∀ a, a < N → ∀ b, b < N → a ≠ b → (T a).2.1 ≠ (T b).2.1) (k : Nat) (hk : k < N) (hlk : Cond.fieldLink own index (T k).1 (T k).2.1 (T k).2.2.1 ∈ lw_tbl) (hfin : (T k).2.2.2 = true) (hdecl : (T k).1 = own) {v : Value} (hn : narrow (ty0 k) v = v) (hfit : fits (ty0 k) v = true) (hl : k < fs.length) (hws : ws.set q0 (a, .inr (ci, fs.set k v)) = ws') (hdg : decode cc pc = .ok (.putfield index, 3))
    (kk : ∀ (H1 : Heap) (locs1 : List Loc), Dy g ws' s H1 locs1 → W p l e R s m args below meth c H1 locs1 cells slots Q (F0 m (pc + 3) ls rest)) : W p l e R s m args below meth c H locs cells slots Q (F0 m pc ls (v :: .ref a :: rest)) := by
  obtain ⟨hx, hb, hml, hown, hlocks, hts, hK, hSt, hE⟩ := C
  subst hws
  exact va_putF hx hb (Ts := u_ws Cn T N) (ty := ty0 k) (fun w h => hts w (hin w h).1 (hin w h).2) (fun _ h => h) ty0 hty hnm hown hK hd.1 hd.2.1 hd.2.2 q0 he hc k hk (hts _ hlk rfl) (fun _ h => h) hfin hmn hdecl (hty k hk) hn hfit hl hdg (fun H1 locs1 h1 h2 h3 => kk H1 locs1 ⟨h1, h2, h3⟩)
/-- any field that isn't final -/
theorem rPutV (C : Cx g p s m args meth c cc nL own) (hd : Dy g ws s H locs) {Cn : String} {T : u_T} {N ci index : Nat} (q0 : Nat) {fs : List Value} (he : ws[q0]? = some (a, .inr (ci, fs))) (hc : vwCl[ci]? = some (Cn, T, N)) (hin : ∀ w ∈ u_ws Cn T N, w ∈ lw_tbl ∧ goodWord w = true) (ty0 : Nat → FieldType) (hty : ∀ k, k < N → parseFieldDescriptor (T k).2.2.1 = some (ty0 k)) (hnm : ∀ a, a < N → ∀ b, b < N → a ≠ b → (T a).2.1 ≠ (T b).2.1) (k : Nat) (hk : k < N) (hlk : Cond.fieldLink own index (T k).1 (T k).2.1 (T k).2.2.1 ∈ lw_tbl) (hfin : (T k).2.2.2 = false) {v : Value} (hn : narrow (ty0 k) v = v) (hfit : fits (ty0 k) v = true) (hl : k < fs.length) (hws : ws.set q0 (a, .inr (ci, fs.set k v)) = ws') (hdg : decode cc pc = .ok (.putfield index, 3))
    (kk : ∀ (H1 : Heap) (locs1 : List Loc), Dy g ws' s H1 locs1 → W p l e R s m args below meth c H1 locs1 cells slots Q (F0 m (pc + 3) ls rest)) : W p l e R s m args below meth c H locs cells slots Q (F0 m pc ls (v :: .ref a :: rest)) := by
  obtain ⟨hx, hb, hml, hown, hlocks, hts, hK, hSt, hE⟩ := C
  subst hws
  exact va_put hx hb (Ts := u_ws Cn T N) (ty := ty0 k) (fun w h => hts w (hin w h).1 (hin w h).2) (fun _ h => h) ty0 hty hnm hown hK hd.1 hd.2.1 hd.2.2 q0 he hc k hk (hts _ hlk rfl) (fun _ h => h) hfin (hty k hk) hn hfit hl hdg (fun H1 locs1 h1 h2 h3 => kk H1 locs1 ⟨h1, h2, h3⟩)
/-- a constructor's contract: the addresses of what it made come with the world -/
def Cn (l : Launch) (g : Gp) (y : MethodName) (cc : ByteArray) (n d mc ms : Nat) (As : List Value) (ws : va_W) (post : (Nat → Nat) → Prop) (B : (Nat → Nat) → va_W) : Prop :=
  Met l y [.code y cc n none] (rmN d mc ms) (va_Pc As (Pw g ws)) (va_Qv post (fun b => Pw g (B b)) (gA g)) mc ms (gA g)
def LKi (own : String) (index : Nat) (y : MethodName) (bytes : ByteArray) (n nn : Nat) : Prop :=
  Cond.methodLink own index y ∈ lw_tbl ∧ Cond.instanceMethod y ∈ lw_tbl ∧ Cond.initialized y.cls ∈ lw_tbl ∧ Cond.code y bytes n none ∈ lw_tbl ∧ (y.cls ≠ "java/lang/invoke/MethodHandle" ∧ y.cls ≠ "java/lang/invoke/VarHandle") ∧ (parseMethodDescriptor y.desc).map (fun d => d.parameters.length) = some nn ∧ y.name = "<init>"
theorem rCallN {y : MethodName} {bytes : ByteArray} {n nn index d mc ms : Nat} {As st0 : List Value} {b : Nat} {post : (Nat → Nat) → Prop} {B : (Nat → Nat) → va_W} (C : Cx g p s m args meth c cc nL own) (hd : Dy g ws s H locs) (hM : Cn l g y bytes n d mc ms (.ref b :: As) ws post B) (hk : LKi own index y bytes n nn)
    (hn : As.length = nn) (hsz : ls.size = nL) (hst : st0 = As.reverse ++ .ref b :: rest) (hro : (rest.map fun v => v.category).sum ≤ 8) (hR : d + 1 ≤ R.frames ∧ 8 + (n + 11) + 40 * d ≤ R.locals) (hcs : cells + mc ≤ R.cells ∧ slots + ms ≤ R.slots) (hdg : decode cc pc = .ok (.invokespecial index, 3))
    (kk : ∀ (bb : Nat → Nat) (H1 : Heap) (locs1 : List Loc), post bb → Dy g (B bb) s H1 locs1 → W p l e R s m args below meth c H1 locs1 (cells + mc) (slots + ms) Q (F0 m (pc + 3) ls rest)) : W p l e R s m args below meth c H locs cells slots Q (F0 m pc ls st0) := by
  subst hst
  obtain ⟨hx, hb, hml, hown, hlocks, hts, hK, hSt, hE⟩ := C
  obtain ⟨k1, k2, k3, k4, k5, k6, k7⟩ := hk
  have hB : CallB R s args own index y bytes n none [.code y bytes n none] (rmN d mc ms) mc ms nn := by
    refine ⟨rfl, rfl, hR.1, hR.2, fun w hw a' U hW => ?_, List.mem_singleton.mpr rfl, hts _ k4 rfl, hts _ k3 rfl, k5, fun sig h => ?_, hts _ k1 rfl⟩
    · rw [List.mem_singleton.mp hw]
      exact word_at hW (good_of_word rfl) (hts _ k4 rfl)
    · rw [h] at k6
      exact (Option.some.inj k6).symm
  refine va_callv (va_runI (Ts := []) (As := As) (rest := rest) ⟨hx, hb, hml, hown, fun _ h => by cases h⟩ hM ⟨hB, k7, hts _ k2 rfl⟩ ⟨Pw.blind, fun U hU hW => ⟨rfl, hd.pw hSt hU hW⟩⟩ rfl hn hsz rfl (lv_room hro) hdg ⟨hcs.1, hcs.2⟩) hd.2.2 (fun _ _ h => h) (fun _ h => h) (fun bb t H1 locs1 ht hvm hw hB1 hz1 hk1 hS => ?_)
  exact kk bb H1 locs1 hw ⟨by rw [← ht]; exact hB1.1, hB1.2.1, hS⟩
theorem rVretN {post : (Nat → Nat) → Prop} {B : (Nat → Nat) → va_W} (C : Cx g p s m args meth c cc nL own) (hr : meth.sig.returnType = none) (bb : Nat → Nat) (hp : post bb) (hd : Dy g (B bb) s H locs) (hdg : decode cc pc = .ok (.return_, 1)) : W p l e R s m args below meth c H locs cells slots (MQ below (va_Qv post (fun b => Pw g (B b)) (gA g)) args s cells slots (gA g)) (F0 m pc ls []) := by
  obtain ⟨hx, hb, hml, hown, hlocks, hts, hK, hSt, hE⟩ := C
  exact W.vret hx hb hr (fun t ht hW => ⟨⟨bb, rfl, hp, hd.pw hSt ht hW⟩, hd.2.2.F ht⟩) hd.2.2.2.2 hdg hlocks
end NW
/-- an address map by a list, from a place on -/
def mapL (k : Nat) (as : List Nat) (b : Nat → Nat) : Nat → Nat := fun i => if k ≤ i ∧ i < k + as.length then as.getD (i - k) 0 else b i
def setA (g : Gp) (b : Nat → Nat) : Gp := (g.1, g.2.1, b, g.2.2.2)
theorem ra_int (U : State) (cA : ClassId) (h : va_RA U cA .int) : U.vm.findClass ("[" ++ FieldType.int.toString) = some cA := h
theorem ra_byte (U : State) (cA : ClassId) (h : va_RA U cA .byte) : U.vm.findClass ("[" ++ FieldType.byte.toString) = some cA := h
theorem ra_long (U : State) (cA : ClassId) (h : va_RA U cA .long) : U.vm.findClass ("[" ++ FieldType.long.toString) = some cA := h
theorem ra_bool (U : State) (cA : ClassId) (h : va_RA U cA .boolean) : U.vm.findClass ("[" ++ FieldType.boolean.toString) = some cA := h
