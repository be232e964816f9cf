section J
variable {p : Program} {l : Launch} {e : Env} {R : Room} {s : State} {m : MethodId} {args : Array Value} {below : List Frame} {meth : Method} {c : Code} {H : Heap} {locs : List Loc} {cells slots : Nat} {Q : State → Prop}
variable {g : Gp} {cc : ByteArray} {pc nL : Nat} {ls : Array Slot} {rest : List Value} {a : Nat} {ws ws' : va_W} {own : String}
/-- a whole row is set -/
def sw (σ : St) (a : Nat) (f : Nat → Int32) : St := (σ.1, fun b => if b = a then f else σ.2.1 b, σ.2.2)
/-- contracts: an answer that is a cell -/
def Cr (l : Launch) (g : Gp) (y : MethodName) (cc : ByteArray) (n : Nat) (ret : Option FieldType) (d : Nat) (As : List Value) (ws : va_W) (b : Nat) (ws' : va_W) : Prop :=
  Met l y [.code y cc n ret] (rmD d) (va_Pc As (Pw g ws)) (va_Qr (fun (_ : Unit) => True) (fun _ a t => a = b ∧ Pw g ws' t) (gA g)) 0 0 (gA g)
abbrev QR (g : Gp) (below : List Frame) (args : Array Value) (s : State) (ws' : va_W) (b : Nat) : State → Prop := MQ below (va_Qr (fun (_ : Unit) => True) (fun _ a t => a = b ∧ Pw g ws' t) (gA g)) args s 0 0 (gA g)
theorem rAretS {X : va_W} {w : St → va_W} {t t' : St} {b : Nat} {nm : String} (C : Cx g p s m args meth c cc nL own) (hr : meth.sig.returnType = some (.object nm)) (hd : Dy g (w t ++ X) s H locs) (h : some t = some t') (hdg : decode cc pc = .ok (.areturn, 1)) : W p l e R s m args below meth c H locs 0 0 (QR g below args s (w t' ++ X) b) (F0 m pc ls [.ref b]) := by
  cases h
  obtain ⟨hx, hb, hml, hown, hlocks, hts, hK, hSt, hE⟩ := C
  exact W.aret hx hb hr (Or.inl ⟨nm, rfl⟩) (Or.inr ⟨b, rfl⟩) (fun t ht hW => ⟨⟨(), b, rfl, trivial, rfl, hd.pw hSt ht hW⟩, hd.2.2.F ht⟩) hd.2.2.2.2 hdg hlocks
/-- what the tables say of a call of a superclass's method on an object of class Cn -/
def LKc (own : String) (index : Nat) (y : MethodName) (bytes : ByteArray) (n : Nat) (ret : Option FieldType) (nn : Nat) : Prop :=
  Cond.methodLink own index y ∈ lw_tbl ∧ Cond.instanceMethod y ∈ lw_tbl ∧ Cond.initialized y.cls ∈ lw_tbl ∧ Cond.code y bytes n ret ∈ lw_tbl ∧ (y.cls ≠ "java/lang/invoke/MethodHandle" ∧ y.cls ≠ "java/lang/invoke/VarHandle") ∧ (parseMethodDescriptor y.desc).map (fun d => d.parameters.length) = some nn
/-- the private methods of the superclass, selected on a StringBuilder -/
theorem sbSel {y : MethodName} (C : Cx g p s m args meth c cc nL own) (hy : y.cls = RJ5) (hp : Cond.privateMethod y ∈ lw_tbl) (hi : Cond.instanceMethod y ∈ lw_tbl) : (Cond.selects RJ4 y y).before args s = true := by
  obtain ⟨hx, hb, hml, hown, hlocks, hts, hK, hSt, hE⟩ := C
  have h1 := hE.1 (.selects RJ4 yJ5_isLatin1_aae02 yJ5_isLatin1_aae02) (mT 1008 (by decide +kernel))
  obtain ⟨c1, r1, m1, a1, a2, a3, a4, k1, a5, a6⟩ := Cond.selects_spec h1
  obtain ⟨mk, methM, hnamed, hmethM, -, -⟩ := Cond.instanceMethod_spec (hE.1 _ hi)
  have hfound : (gu g).methodFound? y.cls y.name y.desc = some mk := State.methodFound?_of_named hnamed (by rw [hy]; decide +kernel)
  have hsel : selectMethod {} (gu g).vm c1 mk = .method mk := selectMethod_private hmethM (Cond.privateMethod_at (hE.1 _ hp) mk methM hnamed hmethM)
  have e1 : (gu g).vm.findClass RJ5 = some m1.cls := findClass_of_methodNamed a3
  have e2 : (gu g).vm.findClass y.cls = some mk.cls := findClass_of_methodNamed hnamed
  rw [hy] at e2
  have e3 : m1.cls = mk.cls := Option.some.inj (e1.symm.trans e2)
  rw [e3] at a5
  have h2 : (Cond.selects RJ4 y y).before g.2.2.2.2.2 (gu g) = true := by
    simp only [Cond.before, Cond.holds, Cond.value, a1, hfound, hnamed, hsel, a5]
    simp; exact a6
  exact word_at hSt.1 (good_of_word rfl) h2
theorem lkC {y : MethodName} {bytes : ByteArray} {n nn index d : Nat} {ret : Option FieldType} (C : Cx g p s m args meth c cc nL own) (hk : LKc own index y bytes n ret nn) (hR : d + 1 ≤ R.frames ∧ 8 + (n + 11) + 40 * d ≤ R.locals) : CallB R s args own index y bytes n ret [.code y bytes n ret] (rmD d) 0 0 nn :=
  lkB (R := R) C hk.1 hk.2.2.1 hk.2.2.2.1 hk.2.2.2.2.1 hk.2.2.2.2.2 hR
theorem rCallCI {y : MethodName} {bytes : ByteArray} {n nn index d ci : Nat} {ret : Option FieldType} {As fs st0 : List Value} {b : Nat} {r : Int32} {q : vw_C} (C : Cx g p s m args meth c cc nL own) (hd : Dy g ws s H locs) (hM : Ci l g y bytes n ret d (.ref b :: As) ws r ws') (hk : LKc own index y bytes n ret nn) (hse : (Cond.selects q.1 y y).before args s = true) (q0 : Nat) (he : ws[q0]? = some (b, .inr (ci, fs))) (hc : vwCl[ci]? = some q)
    (hn : As.length = nn) (hsz : ls.size = nL) (hst : st0 = As.reverse ++ .ref b :: rest) (hro : (rest.map fun v => v.category).sum ≤ 8) (hR : d + 1 ≤ R.frames ∧ 8 + (n + 11) + 40 * d ≤ R.locals) (hcs : cells ≤ R.cells ∧ slots ≤ R.slots) (hdg : decode cc pc = .ok (.invokevirtual index, 3))
    (kk : ∀ (H1 : Heap) (locs1 : List Loc), Dy g ws' s H1 locs1 → W p l e R s m args below meth c H1 locs1 cells slots Q (F0 m (pc + 3) ls (.int r :: rest))) : W p l e R s m args below meth c H locs cells slots Q (F0 m pc ls st0) := by
  subst hst
  have hB := lkC (R := R) C hk hR
  obtain ⟨hx, hb, hml, hown, hlocks, hts, hK, hSt, hE⟩ := C
  refine va_calli (va_runV (Ts := []) (As := As) (rest := rest) ⟨hx, hb, hml, hown, fun _ h => by cases h⟩ hM ⟨hB, hts _ hk.2.1 rfl, hse⟩ ⟨Pw.blind, va_recv hK hd.1 hc he, fun U hU hW => ⟨rfl, hd.pw hSt hU hW⟩⟩ rfl hn hsz rfl (lv_room hro) hdg ⟨hcs.1, hcs.2⟩) hd.2.2 (fun _ _ h => h) (fun _ h => h) (fun r1 u t H1 locs1 ht hvm hw hB1 hz1 hk1 hS => ?_)
  subst hw
  exact kk H1 locs1 ⟨by rw [← ht]; exact hB1.1, hB1.2.1, hS⟩
theorem rCallCV {y : MethodName} {bytes : ByteArray} {n nn index d ci : Nat} {As fs st0 : List Value} {b : Nat} {q : vw_C} (C : Cx g p s m args meth c cc nL own) (hd : Dy g ws s H locs) (hM : Cv l g y bytes n d (.ref b :: As) ws ws') (hk : LKc own index y bytes n none nn) (hse : (Cond.selects q.1 y y).before args s = true) (q0 : Nat) (he : ws[q0]? = some (b, .inr (ci, fs))) (hc : vwCl[ci]? = some q)
    (hn : As.length = nn) (hsz : ls.size = nL) (hst : st0 = As.reverse ++ .ref b :: rest) (hro : (rest.map fun v => v.category).sum ≤ 8) (hR : d + 1 ≤ R.frames ∧ 8 + (n + 11) + 40 * d ≤ R.locals) (hcs : cells ≤ R.cells ∧ slots ≤ R.slots) (hdg : decode cc pc = .ok (.invokevirtual index, 3))
    (kk : ∀ (H1 : Heap) (locs1 : List Loc), Dy g ws' s H1 locs1 → W p l e R s m args below meth c H1 locs1 cells slots Q (F0 m (pc + 3) ls rest)) : W p l e R s m args below meth c H locs cells slots Q (F0 m pc ls st0) := by
  subst hst
  have hB := lkC (R := R) C hk hR
  obtain ⟨hx, hb, hml, hown, hlocks, hts, hK, hSt, hE⟩ := C
  refine va_callv (va_runV (Ts := []) (As := As) (rest := rest) ⟨hx, hb, hml, hown, fun _ h => by cases h⟩ hM ⟨hB, hts _ hk.2.1 rfl, hse⟩ ⟨Pw.blind, va_recv hK hd.1 hc he, fun U hU hW => ⟨rfl, hd.pw hSt hU hW⟩⟩ rfl hn hsz rfl (lv_room hro) hdg ⟨hcs.1, hcs.2⟩) hd.2.2 (fun _ _ h => h) (fun _ h => h) (fun u t H1 locs1 ht hvm hw hB1 hz1 hk1 hS => ?_)
  exact kk H1 locs1 ⟨by rw [← ht]; exact hB1.1, hB1.2.1, hS⟩
/-- .. and on a text, that answers nothing -/
theorem rCallStV {y : MethodName} {bytes : ByteArray} {n nn index d i : Nat} {As st0 : List Value} (C : Cx g p s m args meth c cc nL own) (hd : Dy g ws s H locs) (hi : i < 6) (hM : Cv l g y bytes n d (.ref (ga g (100 + i)) :: As) ws ws') (hk : LKv own index y bytes n none nn) (hq : "java/lang/String" = y.cls)
    (hn : As.length = nn) (hsz : ls.size = nL) (hst : st0 = As.reverse ++ .ref (ga g (100 + i)) :: rest) (hro : (rest.map fun v => v.category).sum ≤ 8) (hR : d + 1 ≤ R.frames ∧ 8 + (n + 11) + 40 * d ≤ R.locals) (hcs : cells ≤ R.cells ∧ slots ≤ R.slots) (hdg : decode cc pc = .ok (.invokevirtual index, 3))
    (kk : ∀ (H1 : Heap) (locs1 : List Loc), Dy g ws' s H1 locs1 → W p l e R s m args below meth c H1 locs1 cells slots Q (F0 m (pc + 3) ls rest)) : W p l e R s m args below meth c H locs cells slots Q (F0 m pc ls st0) := by
  subst hst
  have hB := lkB (R := R) C hk.1 hk.2.2.2.1 hk.2.2.2.2.1 hk.2.2.2.2.2.1 hk.2.2.2.2.2.2 hR
  have hrc := vk_recv (i := i) (strS C) hi hd.2.2
  obtain ⟨hx, hb, hml, hown, hlocks, hts, hK, hSt, hE⟩ := C
  refine va_callv (va_runV (Ts := []) (As := As) (rest := rest) ⟨hx, hb, hml, hown, fun _ h => by cases h⟩ hM ⟨hB, hts _ hk.2.1 rfl, hts _ hk.2.2.1 rfl⟩ ⟨Pw.blind, by rw [← hq]; exact hrc, fun U hU hW => ⟨rfl, hd.pw hSt hU hW⟩⟩ rfl hn hsz rfl (lv_room hro) hdg ⟨hcs.1, hcs.2⟩) hd.2.2 (fun _ _ h => h) (fun _ h => h) (fun u t H1 locs1 ht hvm hw hB1 hz1 hk1 hS => ?_)
  exact kk H1 locs1 ⟨by rw [← ht]; exact hB1.1, hB1.2.1, hS⟩
/-- a call that answers a cell -/
theorem rCallR {y : MethodName} {bytes : ByteArray} {n nn index d ci : Nat} {ret : Option FieldType} {As fs st0 : List Value} {b b1 : Nat} {q : vw_C} (C : Cx g p s m args meth c cc nL own) (hd : Dy g ws s H locs) (hM : Cr l g y bytes n ret d (.ref b :: As) ws b1 ws') (hk : LKv own index y bytes n ret nn) (q0 : Nat) (he : ws[q0]? = some (b, .inr (ci, fs))) (hc : vwCl[ci]? = some q) (hq : q.1 = y.cls)
    (hn : As.length = nn) (hsz : ls.size = nL) (hst : st0 = As.reverse ++ .ref b :: rest) (hro : (rest.map fun v => v.category).sum ≤ 8) (hR : d + 1 ≤ R.frames ∧ 8 + (n + 11) + 40 * d ≤ R.locals) (hcs : cells ≤ R.cells ∧ slots ≤ R.slots) (hdg : decode cc pc = .ok (.invokevirtual index, 3))
    (kk : ∀ (H1 : Heap) (locs1 : List Loc), Dy g ws' s H1 locs1 → W p l e R s m args below meth c H1 locs1 cells slots Q (F0 m (pc + 3) ls (.ref b1 :: rest))) : W p l e R s m args below meth c H locs cells slots Q (F0 m pc ls st0) := by
  subst hst
  have hB := lkB (R := R) C hk.1 hk.2.2.2.1 hk.2.2.2.2.1 hk.2.2.2.2.2.1 hk.2.2.2.2.2.2 hR
  obtain ⟨hx, hb, hml, hown, hlocks, hts, hK, hSt, hE⟩ := C
  refine va_callr (va_runV (Ts := []) (As := As) (rest := rest) ⟨hx, hb, hml, hown, fun _ h => by cases h⟩ hM ⟨hB, hts _ hk.2.1 rfl, hts _ hk.2.2.1 rfl⟩ ⟨Pw.blind, by rw [← hq]; exact va_recv hK hd.1 hc he, fun U hU hW => ⟨rfl, hd.pw hSt hU hW⟩⟩ rfl hn hsz rfl (lv_room hro) hdg ⟨hcs.1, hcs.2⟩) hd.2.2 (fun _ _ h => h) (fun _ h => h) (fun u ra t H1 locs1 ht hvm hw hB1 hz1 hk1 hS => ?_)
  obtain ⟨rfl, hB1⟩ := hB1
  exact kk H1 locs1 ⟨by rw [← ht]; exact hB1.1, hB1.2.1, hS⟩
/-- super.m(..) -/
def LKu (own : String) (index : Nat) (y : MethodName) (bytes : ByteArray) (n : Nat) (ret : Option FieldType) (nn : Nat) : Prop :=
  Cond.methodLink own index y ∈ lw_tbl ∧ Cond.sameMethod y.cls y.cls y.name y.desc ∈ lw_tbl ∧ Cond.superclass own y.cls ∈ lw_tbl ∧ Cond.instanceMethod y ∈ lw_tbl ∧ Cond.initialized y.cls ∈ lw_tbl ∧ Cond.code y bytes n ret ∈ lw_tbl ∧ y.name ≠ "<init>" ∧ (parseMethodDescriptor y.desc).map (fun d => d.parameters.length) = some nn
theorem lkU {y : MethodName} {bytes : ByteArray} {n nn index d : Nat} {ret : Option FieldType} (C : Cx g p s m args meth c cc nL own) (hk : LKu own index y bytes n ret nn) (hR : d + 1 ≤ R.frames ∧ 8 + (n + 11) + 40 * d ≤ R.locals) : va_CS R s args own index y bytes n ret [.code y bytes n ret] (rmD d) 0 0 nn := by
  obtain ⟨hx, hb, hml, hown, hlocks, hts, hK, hSt, hE⟩ := C
  obtain ⟨h1, h2, h3, h4, h5, h6, h7, h8⟩ := hk
  refine ⟨⟨rfl, rfl, hR.1, hR.2, fun w hw a' U hW => ?_, List.mem_singleton.mpr rfl⟩, hts _ h1 rfl, hts _ h2 rfl, hts _ h3 rfl, hts _ h4 rfl, hts _ h5 rfl, hts _ h6 rfl, h7, fun sig h => ?_⟩
  · rw [List.mem_singleton.mp hw]
    exact word_at hW (good_of_word rfl) (hts _ h6 rfl)
  · rw [h] at h8
    exact (Option.some.inj h8).symm
theorem rCallUI {y : MethodName} {bytes : ByteArray} {n nn index d ci : Nat} {ret : Option FieldType} {As fs st0 : List Value} {b : Nat} {r : Int32} {q : vw_C} (C : Cx g p s m args meth c cc nL own) (hd : Dy g ws s H locs) (hM : Ci l g y bytes n ret d (.ref b :: As) ws r ws') (hk : LKu own index y bytes n ret nn) (q0 : Nat) (he : ws[q0]? = some (b, .inr (ci, fs))) (hc : vwCl[ci]? = some q)
    (hn : As.length = nn) (hsz : ls.size = nL) (hst : st0 = As.reverse ++ .ref b :: rest) (hro : (rest.map fun v => v.category).sum ≤ 8) (hR : d + 1 ≤ R.frames ∧ 8 + (n + 11) + 40 * d ≤ R.locals) (hcs : cells ≤ R.cells ∧ slots ≤ R.slots) (hdg : decode cc pc = .ok (.invokespecial index, 3))
    (kk : ∀ (H1 : Heap) (locs1 : List Loc), Dy g ws' s H1 locs1 → W p l e R s m args below meth c H1 locs1 cells slots Q (F0 m (pc + 3) ls (.int r :: rest))) : W p l e R s m args below meth c H locs cells slots Q (F0 m pc ls st0) := by
  subst hst
  have hB := lkU (R := R) C hk hR
  obtain ⟨hx, hb, hml, hown, hlocks, hts, hK, hSt, hE⟩ := C
  refine va_calli (va_runSU (Ts := []) (As := As) (rest := rest) (hK.1 ci q hc).2 ⟨hx, hb, hml, hown, fun _ h => by cases h⟩ hM hB ⟨Pw.blind, va_recv hK hd.1 hc he, fun U hU hW => ⟨rfl, hd.pw hSt hU hW⟩⟩ rfl hn hsz rfl (lv_room hro) hdg ⟨hcs.1, hcs.2⟩) hd.2.2 (fun _ _ h => h) (fun _ h => h) (fun r1 u t H1 locs1 ht hvm hw hB1 hz1 hk1 hS => ?_)
  subst hw
  exact kk H1 locs1 ⟨by rw [← ht]; exact hB1.1, hB1.2.1, hS⟩
theorem rCallUV {y : MethodName} {bytes : ByteArray} {n nn index d ci : Nat} {As fs st0 : List Value} {b : Nat} {q : vw_C} (C : Cx g p s m args meth c cc nL own) (hd : Dy g ws s H locs) (hM : Cv l g y bytes n d (.ref b :: As) ws ws') (hk : LKu own index y bytes n none nn) (q0 : Nat) (he : ws[q0]? = some (b, .inr (ci, fs))) (hc : vwCl[ci]? = some q)
    (hn : As.length = nn) (hsz : ls.size = nL) (hst : st0 = As.reverse ++ .ref b :: rest) (hro : (rest.map fun v => v.category).sum ≤ 8) (hR : d + 1 ≤ R.frames ∧ 8 + (n + 11) + 40 * d ≤ R.locals) (hcs : cells ≤ R.cells ∧ slots ≤ R.slots) (hdg : decode cc pc = .ok (.invokespecial index, 3))
    (kk : ∀ (H1 : Heap) (locs1 : List Loc), Dy g ws' s H1 locs1 → W p l e R s m args below meth c H1 locs1 cells slots Q (F0 m (pc + 3) ls rest)) : W p l e R s m args below meth c H locs cells slots Q (F0 m pc ls st0) := by
  subst hst
  have hB := lkU (R := R) C hk hR
  obtain ⟨hx, hb, hml, hown, hlocks, hts, hK, hSt, hE⟩ := C
  refine va_callv (va_runSU (Ts := []) (As := As) (rest := rest) (hK.1 ci q hc).2 ⟨hx, hb, hml, hown, fun _ h => by cases h⟩ hM hB ⟨Pw.blind, va_recv hK hd.1 hc he, fun U hU hW => ⟨rfl, hd.pw hSt hU hW⟩⟩ rfl hn hsz rfl (lv_room hro) hdg ⟨hcs.1, hcs.2⟩) hd.2.2 (fun _ _ h => h) (fun _ h => h) (fun u t H1 locs1 ht hvm hw hB1 hz1 hk1 hS => ?_)
  exact kk H1 locs1 ⟨by rw [← ht]; exact hB1.1, hB1.2.1, hS⟩
theorem rCallUR {y : MethodName} {bytes : ByteArray} {n nn index d ci : Nat} {ret : Option FieldType} {As fs st0 : List Value} {b b1 : Nat} {q : vw_C} (C : Cx g p s m args meth c cc nL own) (hd : Dy g ws s H locs) (hM : Cr l g y bytes n ret d (.ref b :: As) ws b1 ws') (hk : LKu own index y bytes n ret nn) (q0 : Nat) (he : ws[q0]? = some (b, .inr (ci, fs))) (hc : vwCl[ci]? = some q)
    (hn : As.length = nn) (hsz : ls.size = nL) (hst : st0 = As.reverse ++ .ref b :: rest) (hro : (rest.map fun v => v.category).sum ≤ 8) (hR : d + 1 ≤ R.frames ∧ 8 + (n + 11) + 40 * d ≤ R.locals) (hcs : cells ≤ R.cells ∧ slots ≤ R.slots) (hdg : decode cc pc = .ok (.invokespecial index, 3))
    (kk : ∀ (H1 : Heap) (locs1 : List Loc), Dy g ws' s H1 locs1 → W p l e R s m args below meth c H1 locs1 cells slots Q (F0 m (pc + 3) ls (.ref b1 :: rest))) : W p l e R s m args below meth c H locs cells slots Q (F0 m pc ls st0) := by
  subst hst
  have hB := lkU (R := R) C hk hR
  obtain ⟨hx, hb, hml, hown, hlocks, hts, hK, hSt, hE⟩ := C
  refine va_callr (va_runSU (Ts := []) (As := As) (rest := rest) (hK.1 ci q hc).2 ⟨hx, hb, hml, hown, fun _ h => by cases h⟩ hM hB ⟨Pw.blind, va_recv hK hd.1 hc he, fun U hU hW => ⟨rfl, hd.pw hSt hU hW⟩⟩ rfl hn hsz rfl (lv_room hro) hdg ⟨hcs.1, hcs.2⟩) hd.2.2 (fun _ _ h => h) (fun _ h => h) (fun u ra t H1 locs1 ht hvm hw hB1 hz1 hk1 hS => ?_)
  obtain ⟨rfl, hB1⟩ := hB1
  exact kk H1 locs1 ⟨by rw [← ht]; exact hB1.1, hB1.2.1, hS⟩
/-- a boolean field is set -/
theorem rPutZ (C : Cx g p s m args meth c cc nL own) (hd : Dy g ws s H locs) {Cn : String} {T : u_T} {N ci index : Nat} (q0 : Nat) {fs : List Value} (he : ws[q0]? = some (a, .inr (ci, fs))) (hc : vwCl[ci]? = some (Cn, T, N)) (hin : ∀ w ∈ u_ws Cn T N, w ∈ lw_tbl ∧ goodWord w = true) (ty0 : Nat → FieldType) (hty : ∀ k, k < N → parseFieldDescriptor (T k).2.2.1 = some (ty0 k)) (hnm : ∀ a, a < N → ∀ b, b < N → a ≠ b → (T a).2.1 ≠ (T b).2.1) (k : Nat) (hk : k < N) (hlk : Cond.fieldLink own index (T k).1 (T k).2.1 (T k).2.2.1 ∈ lw_tbl) (hfin : (T k).2.2.2 = false) {v : Int32} (hint : ty0 k = .boolean) (hv : v = 0 ∨ v = 1) (hl : k < fs.length) (hws : ws.set q0 (a, .inr (ci, fs.set k (.int v))) = ws') (hdg : decode cc pc = .ok (.putfield index, 3))
    (kk : ∀ (H1 : Heap) (locs1 : List Loc), Dy g ws' s H1 locs1 → W p l e R s m args below meth c H1 locs1 cells slots Q (F0 m (pc + 3) ls rest)) : W p l e R s m args below meth c H locs cells slots Q (F0 m pc ls (.int v :: .ref a :: rest)) := by
  obtain ⟨hx, hb, hml, hown, hlocks, hts, hK, hSt, hE⟩ := C
  subst hws
  exact va_put hx hb (Ts := u_ws Cn T N) (ty := .boolean) (fun w h => hts w (hin w h).1 (hin w h).2) (fun _ h => h) ty0 hty hnm hown hK hd.1 hd.2.1 hd.2.2 q0 he hc k hk (hts _ hlk rfl) (fun _ h => h) hfin (by rw [hty k hk, hint]) (nar01 hv) (by rcases hv with rfl | rfl <;> rfl) hl hdg (fun H1 locs1 h1 h2 h3 => kk H1 locs1 ⟨h1, h2, h3⟩)
/-- the digits' rows -/
def digO (i : Nat) : Int32 := Int32.ofNat (48 + i % 10)
def digT (i : Nat) : Int32 := Int32.ofNat (48 + i / 10)
theorem digOZ (C : Cx g p s m args meth c cc nL own) : ∃ t : Nat, va_Z "java/lang/Integer" "DigitOnes" "[B" (.ref t) (gA g) s s.heap ∧ va_T .byte t 100 (fun i => .int (digO i)) (gA g) s s.heap := by
  obtain ⟨hx, hb, hml, hown, hlocks, hts, hK, hSt, hE⟩ := C
  have hn := flat_of_before _ hE.2.1
  have hel : ∀ j : Nat, j < 100 → (Term.elem (.static "java/lang/Integer" "DigitOnes" "[B") (.int (Int32.ofNat j))).eval g.2.2.2.2.2 (gu g) none [] (gu g) = some (.int (digO j)) := fun j hj => va_eqt (hn (.eq (.elem (.static "java/lang/Integer" "DigitOnes" "[B") (.int (Int32.ofNat j))) (.int (digO j))) (va_run (p := 25) (N := 100) (f := fun j => Cond.eq (.elem (.static "java/lang/Integer" "DigitOnes" "[B") (.int (Int32.ofNat j))) (.int (digO j))) (by decide +kernel) j hj))
  obtain ⟨t, h1, h2⟩ := va_Tof (tm := .static "java/lang/Integer" "DigitOnes" "[B") (ty := .byte) (N := 100) (f := fun i => .int (digO i)) (A := gA g) (by decide) (hn _ (by decide +kernel)) (va_eqt (hn (.eq (.length (.static "java/lang/Integer" "DigitOnes" "[B")) (.int 100)) (by decide +kernel))) hel hE.out
  exact ⟨t, (va_Z.moved hSt.1.alike (va_Zof (hE.1 _ (mT 1106 (by decide +kernel))) (hE.1 (.initialized "java/lang/Integer") (mT 22 (by decide +kernel))) h1 hE.out)).kept (hSt.kept hE), (va_T.moved hSt.1.alike h2).kept (hSt.kept hE)⟩
theorem digTZ (C : Cx g p s m args meth c cc nL own) : ∃ t : Nat, va_Z "java/lang/Integer" "DigitTens" "[B" (.ref t) (gA g) s s.heap ∧ va_T .byte t 100 (fun i => .int (digT i)) (gA g) s s.heap := by
  obtain ⟨hx, hb, hml, hown, hlocks, hts, hK, hSt, hE⟩ := C
  have hn := flat_of_before _ hE.2.1
  have hel : ∀ j : Nat, j < 100 → (Term.elem (.static "java/lang/Integer" "DigitTens" "[B") (.int (Int32.ofNat j))).eval g.2.2.2.2.2 (gu g) none [] (gu g) = some (.int (digT j)) := fun j hj => va_eqt (hn (.eq (.elem (.static "java/lang/Integer" "DigitTens" "[B") (.int (Int32.ofNat j))) (.int (digT j))) (va_run (p := 128) (N := 100) (f := fun j => Cond.eq (.elem (.static "java/lang/Integer" "DigitTens" "[B") (.int (Int32.ofNat j))) (.int (digT j))) (by decide +kernel) j hj))
  obtain ⟨t, h1, h2⟩ := va_Tof (tm := .static "java/lang/Integer" "DigitTens" "[B") (ty := .byte) (N := 100) (f := fun i => .int (digT i)) (A := gA g) (by decide) (hn _ (by decide +kernel)) (va_eqt (hn (.eq (.length (.static "java/lang/Integer" "DigitTens" "[B")) (.int 100)) (by decide +kernel))) hel hE.out
  exact ⟨t, (va_Z.moved hSt.1.alike (va_Zof (hE.1 _ (mT 1108 (by decide +kernel))) (hE.1 (.initialized "java/lang/Integer") (mT 22 (by decide +kernel))) h1 hE.out)).kept (hSt.kept hE), (va_T.moved hSt.1.alike h2).kept (hSt.kept hE)⟩
theorem rDigGet {index t : Nat} {nm : String} (C : Cx g p s m args meth c cc nL own) (hd : Dy g ws s H locs) (hZ : va_Z "java/lang/Integer" nm "[B" (.ref t) (gA g) s s.heap) (hlk : Cond.fieldLink own index "java/lang/Integer" nm "[B" ∈ lw_tbl) (hdg : decode cc pc = .ok (.getstatic index, 3))
    (kk : W p l e R s m args below meth c H locs cells slots Q (F0 m (pc + 3) ls (.ref t :: rest))) : W p l e R s m args below meth c H locs cells slots Q (F0 m pc ls rest) :=
  va_gets C.1 C.2.1 hZ hd.2.2 C.2.2.2.1 (C.2.2.2.2.2.1 _ hlk rfl) (fun _ h => h) hdg kk
theorem rDigLd {t : Nat} {i : Int32} {f : Nat → Int32} (C : Cx g p s m args meth c cc nL own) (hd : Dy g ws s H locs) (hT : va_T .byte t 100 (fun i => .int (f i)) (gA g) s s.heap) (hin : vp_in i 100) (hdg : decode cc pc = .ok (.baload, 1))
    (kk : W p l e R s m args below meth c H locs cells slots Q (F0 m (pc + 1) ls (.int (f i.toNatClampNeg) :: rest))) : W p l e R s m args below meth c H locs cells slots Q (F0 m pc ls (.int i :: .ref t :: rest)) :=
  va_tb C.1 C.2.1 hT hd.2.2 hin rfl hdg kk
theorem strFit : ∀ i, i < 6 → ∀ j, fits .byte (.int ((bytS.getD i []).getD j 0)) = true := by
  intro i hi j
  have h : ∀ i, i < 6 → ∀ b ∈ bytS.getD i [], fits .byte (.int b) = true := by decide +kernel
  show fits .byte (.int (((bytS.getD i [])[j]?).getD 0)) = true
  cases hb : (bytS.getD i [])[j]? with
  | none => rfl
  | some b => exact h i hi b (List.mem_of_getElem? hb)
theorem ldcSw {T : State} (X : Stand p l e R s m args below meth c T locs cells slots) (hexec : p.tables.exec = Jvm.exec) {text : String} {index : Nat} {q : Addr} {ar : Array Value} (hown : s.vm.findClass own = some m.cls)
    (hconst : (Cond.stringRef own index text).before ar s = true) (hev : (Term.string own index).eval ar s none [] s = some (.ref q)) {f : JFrame} (hg : f.method = m) (hdg : decode c.code f.pc = .ok (.ldc_w index, 3)) :
    ∀ target, Steps p.tables e below (T.setTop { f with pc := f.pc + 3, stack := .ref q :: f.stack }) target → Steps p.tables e below (T.setTop f) target := by
  obtain ⟨k, cf, i, a', hk, hcf, hcp, -, hr, hev'⟩ := Cond.stringRef_spec hown hconst
  cases hev.symm.trans hev'
  obtain ⟨k', hk', he⟩ := X.warmed.alike.2.2 _ _ hk
  have hr' : k'.resolved[index]? = some (some (.string q)) := by
    rcases X.warmed.entry hk hk' index with h | ⟨h, -⟩
    · rw [h]; exact hr
    · rw [hr] at h; cases h
  intro target hrest
  subst hg
  jvm_step X.here [hexec, hdg, ldc_w.wp_string (e := e) (s := T) (f := f) X.here.top hk' (by rw [he]; exact hcf) hcp hr']
  exact hrest
theorem rLdcSw {i index : Nat} {tx : String} (C : Cx g p s m args meth c cc nL own) (hi : i < 6) (htm : tmS i = .string own index) (hlk : Cond.stringRef own index tx ∈ lw_tbl) (hdg : decode cc pc = .ok (.ldc_w index, 3))
    (kk : W p l e R s m args below meth c H locs cells slots Q (F0 m (pc + 3) ls (.ref (ga g (100 + i)) :: rest))) : W p l e R s m args below meth c H locs cells slots Q (F0 m pc ls rest) := by
  obtain ⟨hx, hb, hml, hown, hlocks, hts, hK, hSt, hE⟩ := C
  have h2 := hE.2.2.2.2.2 i hi
  rw [htm] at h2
  have hZ := vk_R.warm hSt.1 (vk_R.of (hE.1 _ hlk) h2)
  intro T hT X
  obtain ⟨t, a1, b1⟩ := kk T hT X
  exact ⟨t, ldcSw X hx hown hZ.1 hZ.2 (f := F0 m pc ls rest) rfl (by rw [hb]; exact hdg) t a1, b1⟩
theorem rCopyT {i index n1 : Nat} {gg : Nat → Int32} {sp dp n : Int32} (C : Cx g p s m args meth c cc nL own) (hd : Dy g ws s H locs) (hi : i < 6) (hsz : ls.size = nL) (q1 : Nat) (ha1 : ws[q1]? = some (a, .inl (gc g 0, n1, .inl gg)))
    (h5 : (¬ sp < 0) ∧ (¬ dp < 0) ∧ (¬ n < 0) ∧ sp.toNatClampNeg + n.toNatClampNeg ≤ lenS.getD i 0 ∧ dp.toNatClampNeg + n.toNatClampNeg ≤ n1) (hws : ws.set q1 (a, .inl (gc g 0, n1, .inl (va_cpy (fun j => (bytS.getD i []).getD j 0) gg sp.toNatClampNeg dp.toNatClampNeg n.toNatClampNeg))) = ws') (hlk : Cond.methodLink own index arraycopyName ∈ lw_tbl)
    (hro : 1 ≤ R.frames ∧ (rest.map fun v => v.category).sum + (nativeFrameWords "java/lang/System" "arraycopy" 5 + 11) ≤ R.locals) (hdg : decode cc pc = .ok (.invokestatic index, 3))
    (kk : ∀ (H1 : Heap) (locs1 : List Loc), Dy g ws' s H1 locs1 → W p l e R s m args below meth c H1 locs1 cells slots Q (F0 m (pc + 3) ls rest)) : W p l e R s m args below meth c H locs cells slots Q (F0 m pc ls (.int n :: .int dp :: .ref a :: .int sp :: .ref (ga g (110 + i)) :: rest)) := by
  have hT := ((strS C).1 i hi).2.2.2
  obtain ⟨hx, hb, hml, hown, hlocks, hts, hK, hSt, hE⟩ := C
  subst hws
  exact vk_copyt hx hb (hml.trans hsz.symm) hown (hts _ hlk rfl) (hts (.native arraycopyName) (mT 1004 (by decide +kernel)) rfl) (hts (.static arraycopyName) (mT 1003 (by decide +kernel)) rfl) (hts (.initialized "java/lang/System") (mT 20 (by decide +kernel)) rfl) hK hd.1 hd.2.1 hd.2.2 hT q1 0 ha1 rfl h5.1 h5.2.1 h5.2.2.1 h5.2.2.2.1 h5.2.2.2.2 (fun j _ => strFit i hi _) hro.1 hro.2 hdg (fun H1 locs1 h1 h2 h3 => kk H1 locs1 ⟨h1, h2, h3⟩)
end J
