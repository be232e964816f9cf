/-! THE WORLD: the state of a side (int fields by number, rows of ints by number, rows of longs by number), what stays the same since the law's start, a method's fixed facts, and one row an instruction over them -/
abbrev St : Type := (Nat → Int32) × (Nat → Nat → Int32) × (Nat → Nat → Int64)
/-- an int field is set -/
def ss (σ : St) (k : Nat) (v : Int32) : St := (upd σ.1 k v, σ.2.1, σ.2.2)
/-- a place of a row is set -/
def sr (σ : St) (a i : Nat) (v : Int32) : St := (σ.1, fun b => if b = a then upd (σ.2.1 a) i v else σ.2.1 b, σ.2.2)
/-- a place of a row of longs is set -/
def sl (σ : St) (a i : Nat) (v : Int64) : St := (σ.1, σ.2.1, fun b => if b = a then vp_updL (σ.2.2 a) i v else σ.2.2 b)
/-- the tables' numbers, the array classes (byte, int, long, boolean, Store), the addresses of the cells, the first own address, the law's start -/
abbrev Gp : Type := va_G × (Nat → ClassId) × (Nat → Nat) × Nat × State × Array Value
abbrev gA (g : Gp) : Nat → Prop := fun q => g.2.2.2.1 ≤ q
abbrev gc (g : Gp) : Nat → ClassId := g.2.1
abbrev ga (g : Gp) : Nat → Nat := g.2.2.1
abbrev gu (g : Gp) : State := g.2.2.2.2.1
abbrev gty (g : Gp) : List (ClassId × FieldType) := [(g.2.1 0, .byte), (g.2.1 1, .int), (g.2.1 2, .long), (g.2.1 3, .boolean), (g.2.1 4, .object "RestoreDesk$Store")]
/-- the class's texts: the words, the signs, ok, none, branch, early -/
def lenS : List Nat := [160, 8, 2, 4, 6, 5]
def bytS : List (List Int32) := [[112, 97, 103, 101, 115, 32, 32, 32, 112, 105, 101, 99, 101, 32, 32, 32, 119, 114, 105, 116, 101, 32, 32, 32, 97, 100, 100, 32, 32, 32, 32, 32, 109, 97, 114, 107, 32, 32, 32, 32, 102, 105, 108, 108, 32, 32, 32, 32, 99, 111, 112, 121, 32, 32, 32, 32, 117, 112, 111, 110, 32, 32, 32, 32, 116, 97, 107, 101, 32, 32, 32, 32, 99, 108, 111, 115, 101, 32, 32, 32, 114, 101, 115, 116, 111, 114, 101, 32, 108, 111, 115, 101, 32, 32, 32, 32, 100, 111, 32, 32, 32, 32, 32, 32, 101, 110, 100, 32, 32, 32, 32, 32, 105, 32, 32, 32, 32, 32, 32, 32, 106, 32, 32, 32, 32, 32, 32, 32, 112, 108, 97, 99, 101, 32, 32, 32, 108, 105, 110, 101, 32, 32, 32, 32, 99, 111, 112, 105, 101, 115, 32, 32, 116, 111, 108, 100, 32, 32, 32, 32], [59, 43, 45, 42, 47, 37, 40, 41], [111, 107], [110, 111, 110, 101], [98, 114, 97, 110, 99, 104], [101, 97, 114, 108, 121]]
def tmS : Nat → Term := fun i => match i with
  | 0 => .string "RestoreDesk$Tokens" 70
  | 1 => .string "RestoreDesk$Tokens" 58
  | 2 => .string "RestoreDesk" 321
  | 3 => .string "RestoreDesk" 327
  | 4 => .string "RestoreDesk" 329
  | _ => .string "RestoreDesk" 330
def strG (g : Gp) : Prop := vk_S 6 lenS bytS (fun i => ga g (100 + i)) (fun i => ga g (110 + i)) (gA g) (gu g) (gu g).heap ∧ ∀ i : Nat, i < 6 → (tmS i).eval g.2.2.2.2.2 (gu g) none [] (gu g) = some (.ref (ga g (100 + i)))
/-- what is known of the law's start -/
def E0 (g : Gp) : Prop := (∀ w ∈ lw_tbl, w.before g.2.2.2.2.2 (gu g) = true) ∧ (Jvm.Cond.and given_1 narrow_1).before g.2.2.2.2.2 (gu g) = true ∧ va_K g.1 vwCl (gty g) (gu g) ∧ g.2.2.2.1 = (gu g).heap.size ∧ strG g
/-- what stays: the tables but for their links, the cells that were there at the law's start -/
def Sta (g : Gp) (U : State) : Prop := (gu g).WarmedH U.vm ∧ g.2.2.2.1 ≤ U.heap.size ∧ ∀ q : Nat, q < g.2.2.2.1 → U.heap[q]? = (gu g).heap[q]?
/-- a world between two instructions -/
def Dy (g : Gp) (ws : va_W) (s : State) (H : Heap) (locs : List Loc) : Prop := va_P g.1 vwCl ws H ∧ va_D (gA g) ws ∧ va_S (gA g) s.heap H locs
/-- a world at a method's start and end -/
def Pw (g : Gp) (ws : va_W) (U : State) : Prop := va_P g.1 vwCl ws U.heap ∧ va_D (gA g) ws ∧ Sta g U
/-- a method's fixed facts -/
def Cx (g : Gp) (p : Program) (s : State) (m : MethodId) (args : Array Value) (meth : Method) (c : Code) (cc : ByteArray) (nL : Nat) (own : String) : Prop :=
  p.tables.exec = Jvm.exec ∧ c.code = cc ∧ c.maxLocals = nL ∧ s.vm.findClass own = some m.cls ∧ meth.locks = false ∧ (∀ w ∈ lw_tbl, goodWord w = true → w.before args s = true) ∧ va_K g.1 vwCl (gty g) s ∧ Sta g s ∧ E0 g
def rmD (d : Nat) : Room := { frames := d, cells := 0, slots := 0, locals := 40 * d }
/-- contracts: from a world to a world, with an answer -/
def Ci (l : Launch) (g : Gp) (y : MethodName) (cc : ByteArray) (n : Nat) (ret : Option FieldType) (d : Nat) (As : List Value) (ws : va_W) (r : Int32) (ws' : va_W) : Prop :=
  Met l y [.code y cc n ret] (rmD d) (va_Pc As (Pw g ws)) (va_Qi (fun (x : Int32) (_ : Unit) => x = r) (fun _ => Pw g ws') (gA g)) 0 0 (gA g)
def Cl (l : Launch) (g : Gp) (y : MethodName) (cc : ByteArray) (n : Nat) (ret : Option FieldType) (d : Nat) (As : List Value) (ws : va_W) (r : Int64) (ws' : va_W) : Prop :=
  Met l y [.code y cc n ret] (rmD d) (va_Pc As (Pw g ws)) (va_Ql (fun (x : Int64) (_ : Unit) => x = r) (fun _ => Pw g ws') (gA g)) 0 0 (gA g)
def Cv (l : Launch) (g : Gp) (y : MethodName) (cc : ByteArray) (n : Nat) (d : Nat) (As : List Value) (ws : va_W) (ws' : va_W) : Prop :=
  Met l y [.code y cc n none] (rmD d) (va_Pc As (Pw g ws)) (va_Qv (fun (_ : Unit) => True) (fun _ => Pw g ws') (gA g)) 0 0 (gA g)
theorem Pw.blind {g : Gp} {ws : va_W} {As : List Value} : FrameBlind (va_Pc As (Pw g ws)) := fun _ _ _ _ q => ⟨q.1, q.2.1, q.2.2.1, q.2.2.2⟩
theorem Sta.next {g : Gp} {s U : State} {H : Heap} {locs : List Loc} (h : Sta g s) (hS : va_S (gA g) s.heap H locs) (hU : U.heap = H) (hW : s.WarmedH U.vm) : Sta g U := by
  refine ⟨State.WarmedH.trans h.1 hW, ?_, fun q hq => ?_⟩
  · rw [hU]; exact Nat.le_trans h.2.1 hS.1
  · rw [hU, hS.2.1 q (Nat.lt_of_lt_of_le hq h.2.1) (fun z => absurd z (Nat.not_le.mpr hq))]
    exact h.2.2 q hq
theorem Dy.pw {g : Gp} {ws : va_W} {s U : State} {H : Heap} {locs : List Loc} (h : Dy g ws s H locs) (hs : Sta g s) (hU : U.heap = H) (hW : s.WarmedH U.vm) : Pw g ws U :=
  ⟨by rw [hU]; exact h.1, h.2.1, hs.next h.2.2 hU hW⟩
/-- THE HEAD OF A METHOD -/
theorem rHead {l : Launch} {g : Gp} {y : MethodName} {cc : ByteArray} {n d : Nat} {ret : Option FieldType} {As : List Value} {ws : va_W} {Qc : Array Value → State → Outcome → State → Prop} (hE : E0 g) (hy : plainName y.cls = true) (hn : (lg_sl As).length ≤ n)
    (body : ∀ (p : Program) (e : Env) (s : State) (m : MethodId) (below : List Frame) (meth : Method) (c : Code), Cx g p s m As.toArray meth c cc n y.cls → meth.sig.returnType = ret → meth.name = y.name → Dy g ws s s.heap [] → ∀ ls : Array Slot, lv_has ls n (lv_args 0 As) →
      W p l e (rmD d) s m As.toArray below meth c s.heap [] 0 0 (MQ below Qc As.toArray s 0 0 (gA g)) (F0 m 0 ls [])) : Met l y [.code y cc n ret] (rmD d) (va_Pc As (Pw g ws)) Qc 0 0 (gA g) := by
  refine Met.ofW (cc := cc) (maxL := n) (ret := ret) hy rfl ?_
  intro p e s m args below meth c s₁ B hml hv
  obtain ⟨rfl, hP, hD, hSt⟩ := hv
  rw [lg_entry_eq]
  exact body p e s m below meth c ⟨B.exec, B.bytes, hml, findClass_of_methodNamed B.named, B.notSynchronized, fun w hw hg => word_at hSt.1 (good_of_word hg) (hE.1 w hw), va_K.moved hSt.1.alike hE.2.2.1, hSt, hE⟩ B.returns (name_of_methodNamed B.named B.method).1 ⟨hP, hD, va_S.rf⟩ _ (lv_entry As (n := n) hn)
theorem iteT {α : Type} {c : Prop} [Decidable c] {a b r : α} (hc : c) (h : (if c then a else b) = r) : a = r := by rw [if_pos hc] at h; exact h
theorem iteF {α : Type} {c : Prop} [Decidable c] {a b r : α} (hc : ¬ c) (h : (if c then a else b) = r) : b = r := by rw [if_neg hc] at h; exact h
/-- what must hold for the machine to go on -/
theorem chk {α : Type} {c : Prop} [Decidable c] {k : Option α} {r : α} (h : (if c then k else none) = some r) : c ∧ k = some r := by
  by_cases hc : c
  · rw [if_pos hc] at h; exact ⟨hc, h⟩
  · rw [if_neg hc] at h; cases h
/-- a value with a name -/
def bnd {α β : Type} (x : α) (f : α → β) : β := f x
theorem bnd_e {α β : Type} {x : α} {f : α → β} {r : β} (h : bnd x f = r) : ∃ z, z = x ∧ f z = r := ⟨x, rfl, h⟩
def cal {α β : Type} (x : Option α) (k : α → Option β) : Option β := match x with
  | none => none
  | some r => k r
theorem cal_e {α β : Type} {x : Option α} {k : α → Option β} {r : β} (h : cal x k = some r) : ∃ z, x = some z ∧ k z = some r := by
  cases x with
  | none => cases h
  | some z => exact ⟨z, rfl, h⟩
def cal2 {α β γ : Type} (x : Option (α × γ)) (k : α → γ → Option β) : Option β := match x with
  | none => none
  | some (r, t) => k r t
theorem cal2_e {α β γ : Type} {x : Option (α × γ)} {k : α → γ → Option β} {r : β} (h : cal2 x k = some r) : ∃ z t, x = some (z, t) ∧ k z t = some r := by
  cases x with
  | none => cases h
  | some z => exact ⟨z.1, z.2, rfl, h⟩
/-- an index lies in its row -/
def inb (i : Int32) (n : Nat) : Bool := decide (¬ (i < 0 ∨ n ≤ i.toNatClampNeg))
theorem inb_i {i : Int32} {n : Nat} (h : inb i n = true) : vp_in i n := of_decide_eq_true (p := ¬ (i < 0 ∨ n ≤ i.toNatClampNeg)) h
abbrev mx (x y : Int32) : Int32 := if x < y then y else x
abbrev mn (x y : Int32) : Int32 := if y < x then y else x
theorem mT {w : Cond} (i : Nat) (h : tables_1[i]? = some w) : w ∈ lw_tbl := List.mem_append_right _ (List.mem_of_getElem? h)
theorem sw_out {x : Int32} {lo hi : Int} (h : ∀ z : Int, lo ≤ z → z ≤ hi → x.toInt = z → False) : x.toInt < lo ∨ hi < x.toInt := by
  by_cases h1 : x.toInt < lo
  · exact Or.inl h1
  · by_cases h2 : hi < x.toInt
    · exact Or.inr h2
    · exact (h _ (Int.not_lt.mp h1) (Int.not_lt.mp h2) rfl).elim
theorem rmle {d d' n : Nat} (h : d + 1 ≤ d') (hn : n ≤ 21) : d + 1 ≤ (rmD d').frames ∧ 8 + (n + 11) + 40 * d ≤ (rmD d').locals := ⟨h, by show 8 + (n + 11) + 40 * d ≤ 40 * d'; omega⟩
theorem E0.out {g : Gp} (hE : E0 g) : ∀ a : Nat, a < (gu g).heap.size → ¬ gA g a := fun a h z => by
  have h1 : g.2.2.2.1 ≤ a := z
  rw [hE.2.2.2.1] at h1
  omega
theorem Sta.kept {g : Gp} {s : State} (hE : E0 g) (h : Sta g s) : ∀ a : Nat, a < (gu g).heap.size → ¬ gA g a → s.heap[a]? = (gu g).heap[a]? := fun a ha _ => h.2.2 a (by rw [hE.2.2.2.1]; exact ha)
section RW
variable {p : Program} {l : Launch} {e : Env} {R : Room} {s : State} {m : MethodId} {args : Array Value} {below : List Frame} {meth : Method} {c : Code} {H : Heap} {locs : List Loc} {cells slots : Nat} {Q : State → Prop}
variable {g : Gp} {cc : ByteArray} {pc nL : Nat} {ls : Array Slot} {rest : List Value} {a : Nat} {ws ws' : va_W} {own : String}
theorem rGet (C : Cx g p s m args meth c cc nL own) (hd : Dy g ws s H locs) {Cn : String} {T : u_T} {N ci index : Nat} (q0 : Nat) {fs : List Value} (he : ws[q0]? = some (a, .inr (ci, fs))) (hc : vwCl[ci]? = some (Cn, T, N)) (hin : ∀ w ∈ u_ws Cn T N, w ∈ lw_tbl ∧ goodWord w = true) (k : Nat) (hk : k < N) (hlk : Cond.fieldLink own index (T k).1 (T k).2.1 (T k).2.2.1 ∈ lw_tbl) {v : Value} (hv : fs[k]? = some v) (hdg : decode cc pc = .ok (.getfield index, 3))
    (kk : W p l e R s m args below meth c H locs cells slots Q (F0 m (pc + 3) ls (v :: rest))) : W p l e R s m args below meth c H locs cells slots Q (F0 m pc ls (.ref a :: rest)) := by
  obtain ⟨hx, hb, hml, hown, hlocks, hts, hK, hSt, hE⟩ := C
  exact va_get hx hb (Ts := u_ws Cn T N) (fun w h => hts w (hin w h).1 (hin w h).2) (fun _ h => h) hown hK hd.1 q0 he hc k hk (hts _ hlk rfl) (fun _ h => h) hv hdg kk
theorem rGetN (C : Cx g p s m args meth c cc nL own) (hd : Dy g ws s H locs) {Cn host : String} {T : u_T} {N ci index : Nat} (q0 : Nat) {fs : List Value} (he : ws[q0]? = some (a, .inr (ci, fs))) (hc : vwCl[ci]? = some (Cn, T, N)) (hin : ∀ w ∈ u_ws Cn T N, w ∈ lw_tbl ∧ goodWord w = true) (k : Nat) (hk : k < N) (hlk : Cond.fieldLinkNest own index (T k).1 (T k).2.1 (T k).2.2.1 host ∈ lw_tbl) {v : Value} (hv : fs[k]? = some v) (hdg : decode cc pc = .ok (.getfield index, 3))
    (kk : W p l e R s m args below meth c H locs cells slots Q (F0 m (pc + 3) ls (v :: rest))) : W p l e R s m args below meth c H locs cells slots Q (F0 m pc ls (.ref a :: rest)) := by
  obtain ⟨hx, hb, hml, hown, hlocks, hts, hK, hSt, hE⟩ := C
  exact va_getN hx hb (Ts := u_ws Cn T N) (fun w h => hts w (hin w h).1 (hin w h).2) (fun _ h => h) hown hK hd.1 q0 he hc k hk (va_Nw.use rfl (va_Nw.warmF hSt.1 (va_Nw.of rfl (hE.1 _ hlk)))) (fun _ h => h) hv hdg kk
theorem rPut (C : Cx g p s m args meth c cc nL own) (hd : Dy g ws s H locs) {Cn : String} {T : u_T} {N ci index : Nat} (q0 : Nat) {fs : List Value} (he : ws[q0]? = some (a, .inr (ci, fs))) (hc : vwCl[ci]? = some (Cn, T, N)) (hin : ∀ w ∈ u_ws Cn T N, w ∈ lw_tbl ∧ goodWord w = true) (ty0 : Nat → FieldType) (hty : ∀ k, k < N → parseFieldDescriptor (T k).2.2.1 = some (ty0 k)) (hnm : ∀ a, a < N → ∀ b, b < N → a ≠ b → (T a).2.1 ≠ (T b).2.1) (k : Nat) (hk : k < N) (hlk : Cond.fieldLink own index (T k).1 (T k).2.1 (T k).2.2.1 ∈ lw_tbl) (hfin : (T k).2.2.2 = false) {v : Int32} (hint : ty0 k = .int) (hl : k < fs.length) (hws : ws.set q0 (a, .inr (ci, fs.set k (.int v))) = ws') (hdg : decode cc pc = .ok (.putfield index, 3))
    (kk : ∀ (H1 : Heap) (locs1 : List Loc), Dy g ws' s H1 locs1 → W p l e R s m args below meth c H1 locs1 cells slots Q (F0 m (pc + 3) ls rest)) : W p l e R s m args below meth c H locs cells slots Q (F0 m pc ls (.int v :: .ref a :: rest)) := by
  obtain ⟨hx, hb, hml, hown, hlocks, hts, hK, hSt, hE⟩ := C
  subst hws
  exact va_put hx hb (Ts := u_ws Cn T N) (ty := .int) (fun w h => hts w (hin w h).1 (hin w h).2) (fun _ h => h) ty0 hty hnm hown hK hd.1 hd.2.1 hd.2.2 q0 he hc k hk (hts _ hlk rfl) (fun _ h => h) hfin (by rw [hty k hk, hint]) rfl rfl hl hdg (fun H1 locs1 h1 h2 h3 => kk H1 locs1 ⟨h1, h2, h3⟩)
theorem rIald (C : Cx g p s m args meth c cc nL own) (hd : Dy g ws s H locs) (q0 : Nat) {n : Nat} {f : Nat → Int32} (ha : ws[q0]? = some (a, .inl (gc g 1, n, .inl f))) {i : Int32} (hin : vp_in i n) (hdg : decode cc pc = .ok (.iaload, 1))
    (kk : W p l e R s m args below meth c H locs cells slots Q (F0 m (pc + 1) ls (.int (f i.toNatClampNeg) :: rest))) : W p l e R s m args below meth c H locs cells slots Q (F0 m pc ls (.int i :: .ref a :: rest)) := by
  obtain ⟨hx, hb, hml, hown, hlocks, hts, hK, hSt, hE⟩ := C
  exact va_iald hx hb hK hd.1 q0 1 ha rfl hin hdg kk
theorem rBald (C : Cx g p s m args meth c cc nL own) (hd : Dy g ws s H locs) (q0 : Nat) {n : Nat} {f : Nat → Int32} (ha : ws[q0]? = some (a, .inl (gc g 0, n, .inl f))) {i : Int32} (hin : vp_in i n) (hdg : decode cc pc = .ok (.baload, 1))
    (kk : W p l e R s m args below meth c H locs cells slots Q (F0 m (pc + 1) ls (.int (f i.toNatClampNeg) :: rest))) : W p l e R s m args below meth c H locs cells slots Q (F0 m pc ls (.int i :: .ref a :: rest)) := by
  obtain ⟨hx, hb, hml, hown, hlocks, hts, hK, hSt, hE⟩ := C
  exact va_bald hx hb hK hd.1 q0 0 ha rfl hin hdg kk
theorem rZald (C : Cx g p s m args meth c cc nL own) (hd : Dy g ws s H locs) (q0 : Nat) {n : Nat} {f : Nat → Int32} (ha : ws[q0]? = some (a, .inl (gc g 3, n, .inl f))) {i : Int32} (hin : vp_in i n) (hdg : decode cc pc = .ok (.baload, 1))
    (kk : W p l e R s m args below meth c H locs cells slots Q (F0 m (pc + 1) ls (.int (f i.toNatClampNeg) :: rest))) : W p l e R s m args below meth c H locs cells slots Q (F0 m pc ls (.int i :: .ref a :: rest)) := by
  obtain ⟨hx, hb, hml, hown, hlocks, hts, hK, hSt, hE⟩ := C
  exact va_zald hx hb hK hd.1 q0 3 ha rfl hin hdg kk
theorem rLald (C : Cx g p s m args meth c cc nL own) (hd : Dy g ws s H locs) (q0 : Nat) {n : Nat} {f : Nat → Int64} (ha : ws[q0]? = some (a, .inl (gc g 2, n, .inr (.inl f)))) {i : Int32} (hin : vp_in i n) (hdg : decode cc pc = .ok (.laload, 1))
    (kk : W p l e R s m args below meth c H locs cells slots Q (F0 m (pc + 1) ls (.long (f i.toNatClampNeg) :: rest))) : W p l e R s m args below meth c H locs cells slots Q (F0 m pc ls (.int i :: .ref a :: rest)) := by
  obtain ⟨hx, hb, hml, hown, hlocks, hts, hK, hSt, hE⟩ := C
  exact va_lald hx hb hK hd.1 q0 2 ha rfl hin hdg kk
theorem rIast (C : Cx g p s m args meth c cc nL own) (hd : Dy g ws s H locs) (q0 : Nat) {n : Nat} {f : Nat → Int32} (ha : ws[q0]? = some (a, .inl (gc g 1, n, .inl f))) {i x : Int32} (hin : vp_in i n) (hws : ws.set q0 (a, .inl (gc g 1, n, .inl (upd f i.toNatClampNeg x))) = ws') (hdg : decode cc pc = .ok (.iastore, 1))
    (kk : ∀ (H1 : Heap) (locs1 : List Loc), Dy g ws' s H1 locs1 → W p l e R s m args below meth c H1 locs1 cells slots Q (F0 m (pc + 1) ls rest)) : W p l e R s m args below meth c H locs cells slots Q (F0 m pc ls (.int x :: .int i :: .ref a :: rest)) := by
  obtain ⟨hx, hb, hml, hown, hlocks, hts, hK, hSt, hE⟩ := C
  subst hws
  exact va_iast hx hb hK hd.1 hd.2.1 hd.2.2 q0 1 ha rfl hin hdg (fun H1 locs1 h1 h2 h3 => kk H1 locs1 ⟨h1, h2, h3⟩)
theorem rBast (C : Cx g p s m args meth c cc nL own) (hd : Dy g ws s H locs) (q0 : Nat) {n : Nat} {f : Nat → Int32} (ha : ws[q0]? = some (a, .inl (gc g 0, n, .inl f))) {i x : Int32} (hin : vp_in i n) (hws : ws.set q0 (a, .inl (gc g 0, n, .inl (upd f i.toNatClampNeg (vp_nar .byte x)))) = ws') (hdg : decode cc pc = .ok (.bastore, 1))
    (kk : ∀ (H1 : Heap) (locs1 : List Loc), Dy g ws' s H1 locs1 → W p l e R s m args below meth c H1 locs1 cells slots Q (F0 m (pc + 1) ls rest)) : W p l e R s m args below meth c H locs cells slots Q (F0 m pc ls (.int x :: .int i :: .ref a :: rest)) := by
  obtain ⟨hx, hb, hml, hown, hlocks, hts, hK, hSt, hE⟩ := C
  subst hws
  exact va_bast hx hb hK hd.1 hd.2.1 hd.2.2 q0 0 ha rfl hin hdg (fun H1 locs1 h1 h2 h3 => kk H1 locs1 ⟨h1, h2, h3⟩)
theorem rZast (C : Cx g p s m args meth c cc nL own) (hd : Dy g ws s H locs) (q0 : Nat) {n : Nat} {f : Nat → Int32} (ha : ws[q0]? = some (a, .inl (gc g 3, n, .inl f))) {i x : Int32} (hin : vp_in i n) (hws : ws.set q0 (a, .inl (gc g 3, n, .inl (upd f i.toNatClampNeg (vp_nar .boolean x)))) = ws') (hdg : decode cc pc = .ok (.bastore, 1))
    (kk : ∀ (H1 : Heap) (locs1 : List Loc), Dy g ws' s H1 locs1 → W p l e R s m args below meth c H1 locs1 cells slots Q (F0 m (pc + 1) ls rest)) : W p l e R s m args below meth c H locs cells slots Q (F0 m pc ls (.int x :: .int i :: .ref a :: rest)) := by
  obtain ⟨hx, hb, hml, hown, hlocks, hts, hK, hSt, hE⟩ := C
  subst hws
  exact va_zast hx hb hK hd.1 hd.2.1 hd.2.2 q0 3 ha rfl hin hdg (fun H1 locs1 h1 h2 h3 => kk H1 locs1 ⟨h1, h2, h3⟩)
theorem rLast (C : Cx g p s m args meth c cc nL own) (hd : Dy g ws s H locs) (q0 : Nat) {n : Nat} {f : Nat → Int64} (ha : ws[q0]? = some (a, .inl (gc g 2, n, .inr (.inl f)))) {i : Int32} {x : Int64} (hin : vp_in i n) (hws : ws.set q0 (a, .inl (gc g 2, n, .inr (.inl (vp_updL f i.toNatClampNeg x)))) = ws') (hdg : decode cc pc = .ok (.lastore, 1))
    (kk : ∀ (H1 : Heap) (locs1 : List Loc), Dy g ws' s H1 locs1 → W p l e R s m args below meth c H1 locs1 cells slots Q (F0 m (pc + 1) ls rest)) : W p l e R s m args below meth c H locs cells slots Q (F0 m pc ls (.long x :: .int i :: .ref a :: rest)) := by
  obtain ⟨hx, hb, hml, hown, hlocks, hts, hK, hSt, hE⟩ := C
  subst hws
  exact va_last hx hb hK hd.1 hd.2.1 hd.2.2 q0 2 ha rfl hin hdg (fun H1 locs1 h1 h2 h3 => kk H1 locs1 ⟨h1, h2, h3⟩)
theorem rAlen (C : Cx g p s m args meth c cc nL own) (hd : Dy g ws s H locs) (q0 t0 : Nat) {x : vp_A} {ty : FieldType} (ha : ws[q0]? = some (a, .inl (gc g t0, x))) (ht : (gty g)[t0]? = some (gc g t0, ty)) {v : Int32} (hv : Int32.ofNat x.1 = v) (hdg : decode cc pc = .ok (.arraylength, 1))
    (kk : W p l e R s m args below meth c H locs cells slots Q (F0 m (pc + 1) ls (.int v :: rest))) : W p l e R s m args below meth c H locs cells slots Q (F0 m pc ls (.ref a :: rest)) := by
  obtain ⟨hx, hb, hml, hown, hlocks, hts, hK, hSt, hE⟩ := C
  exact va_alen hx hb hK hd.1 q0 t0 ha ht hv hdg kk
/-- what the tables say of a call -/
def LKv (own : String) (index : Nat) (y : MethodName) (bytes : ByteArray) (n : Nat) (ret : Option FieldType) (nn : Nat) : Prop :=
  Cond.methodLink own index y ∈ lw_tbl ∧ Cond.instanceMethod y ∈ lw_tbl ∧ Cond.selects y.cls y y ∈ lw_tbl ∧ Cond.initialized y.cls ∈ lw_tbl ∧ Cond.code y bytes n ret ∈ lw_tbl ∧ (y.cls ≠ "java/lang/invoke/MethodHandle" ∧ y.cls ≠ "java/lang/invoke/VarHandle") ∧ (parseMethodDescriptor y.desc).map (fun d => d.parameters.length) = some nn
def LKs (own : String) (index : Nat) (y : MethodName) (bytes : ByteArray) (n : Nat) (ret : Option FieldType) (nn : Nat) : Prop :=
  Cond.methodLink own index y ∈ lw_tbl ∧ Cond.static y ∈ lw_tbl ∧ Cond.initialized y.cls ∈ lw_tbl ∧ Cond.code y bytes n ret ∈ lw_tbl ∧ (y.cls ≠ "java/lang/invoke/MethodHandle" ∧ y.cls ≠ "java/lang/invoke/VarHandle") ∧ (parseMethodDescriptor y.desc).map (fun d => d.parameters.length) = some nn
theorem lkB {y : MethodName} {bytes : ByteArray} {n nn index d : Nat} {ret : Option FieldType} (C : Cx g p s m args meth c cc nL own) (h1 : Cond.methodLink own index y ∈ lw_tbl) (h4 : Cond.initialized y.cls ∈ lw_tbl) (h5 : Cond.code y bytes n ret ∈ lw_tbl) (h6 : y.cls ≠ "java/lang/invoke/MethodHandle" ∧ y.cls ≠ "java/lang/invoke/VarHandle") (h7 : (parseMethodDescriptor y.desc).map (fun d => d.parameters.length) = some nn) (hR : d + 1 ≤ R.frames ∧ 8 + (n + 11) + 40 * d ≤ R.locals) :
    CallB R s args own index y bytes n ret [.code y bytes n ret] (rmD d) 0 0 nn := by
  obtain ⟨hx, hb, hml, hown, hlocks, hts, hK, hSt, hE⟩ := C
  refine ⟨rfl, rfl, hR.1, hR.2, fun w hw a' U hW => ?_, List.mem_singleton.mpr rfl, hts _ h5 rfl, hts _ h4 rfl, h6, fun sig h => ?_, hts _ h1 rfl⟩
  · rw [List.mem_singleton.mp hw]
    exact word_at hW (good_of_word rfl) (hts _ h5 rfl)
  · rw [h] at h7
    exact (Option.some.inj h7).symm
theorem rCallI {y : MethodName} {bytes : ByteArray} {n nn index d ci : Nat} {ret : Option FieldType} {As fs st0 : List Value} {b : Nat} {r : Int32} {q : vw_C} (C : Cx g p s m args meth c cc nL own) (hd : Dy g ws s H locs) (hM : Ci l g y bytes n ret d (.ref b :: As) ws r ws') (hk : LKv own index y bytes n ret nn) (q0 : Nat) (he : ws[q0]? = some (b, .inr (ci, fs))) (hc : vwCl[ci]? = some q) (hq : q.1 = y.cls)
    (hn : As.length = nn) (hsz : ls.size = nL) (hst : st0 = As.reverse ++ .ref b :: rest) (hro : (rest.map fun v => v.category).sum ≤ 8) (hR : d + 1 ≤ R.frames ∧ 8 + (n + 11) + 40 * d ≤ R.locals) (hcs : cells ≤ R.cells ∧ slots ≤ R.slots) (hdg : decode cc pc = .ok (.invokevirtual index, 3))
    (kk : ∀ (H1 : Heap) (locs1 : List Loc), Dy g ws' s H1 locs1 → W p l e R s m args below meth c H1 locs1 cells slots Q (F0 m (pc + 3) ls (.int r :: rest))) : W p l e R s m args below meth c H locs cells slots Q (F0 m pc ls st0) := by
  subst hst
  have hB := lkB (R := R) C hk.1 hk.2.2.2.1 hk.2.2.2.2.1 hk.2.2.2.2.2.1 hk.2.2.2.2.2.2 hR
  obtain ⟨hx, hb, hml, hown, hlocks, hts, hK, hSt, hE⟩ := C
  refine va_calli (va_runV (Ts := []) (As := As) (rest := rest) ⟨hx, hb, hml, hown, fun _ h => by cases h⟩ hM ⟨hB, hts _ hk.2.1 rfl, hts _ hk.2.2.1 rfl⟩ ⟨Pw.blind, by rw [← hq]; exact va_recv hK hd.1 hc he, fun U hU hW => ⟨rfl, hd.pw hSt hU hW⟩⟩ rfl hn hsz rfl (lv_room hro) hdg ⟨hcs.1, hcs.2⟩) hd.2.2 (fun _ _ h => h) (fun _ h => h) (fun r1 u t H1 locs1 ht hvm hw hB1 hz1 hk1 hS => ?_)
  subst hw
  exact kk H1 locs1 ⟨by rw [← ht]; exact hB1.1, hB1.2.1, hS⟩
theorem rCallV {y : MethodName} {bytes : ByteArray} {n nn index d ci : Nat} {As fs st0 : List Value} {b : Nat} {q : vw_C} (C : Cx g p s m args meth c cc nL own) (hd : Dy g ws s H locs) (hM : Cv l g y bytes n d (.ref b :: As) ws ws') (hk : LKv own index y bytes n none nn) (q0 : Nat) (he : ws[q0]? = some (b, .inr (ci, fs))) (hc : vwCl[ci]? = some q) (hq : q.1 = y.cls)
    (hn : As.length = nn) (hsz : ls.size = nL) (hst : st0 = As.reverse ++ .ref b :: rest) (hro : (rest.map fun v => v.category).sum ≤ 8) (hR : d + 1 ≤ R.frames ∧ 8 + (n + 11) + 40 * d ≤ R.locals) (hcs : cells ≤ R.cells ∧ slots ≤ R.slots) (hdg : decode cc pc = .ok (.invokevirtual index, 3))
    (kk : ∀ (H1 : Heap) (locs1 : List Loc), Dy g ws' s H1 locs1 → W p l e R s m args below meth c H1 locs1 cells slots Q (F0 m (pc + 3) ls rest)) : W p l e R s m args below meth c H locs cells slots Q (F0 m pc ls st0) := by
  subst hst
  have hB := lkB (R := R) C hk.1 hk.2.2.2.1 hk.2.2.2.2.1 hk.2.2.2.2.2.1 hk.2.2.2.2.2.2 hR
  obtain ⟨hx, hb, hml, hown, hlocks, hts, hK, hSt, hE⟩ := C
  refine va_callv (va_runV (Ts := []) (As := As) (rest := rest) ⟨hx, hb, hml, hown, fun _ h => by cases h⟩ hM ⟨hB, hts _ hk.2.1 rfl, hts _ hk.2.2.1 rfl⟩ ⟨Pw.blind, by rw [← hq]; exact va_recv hK hd.1 hc he, fun U hU hW => ⟨rfl, hd.pw hSt hU hW⟩⟩ rfl hn hsz rfl (lv_room hro) hdg ⟨hcs.1, hcs.2⟩) hd.2.2 (fun _ _ h => h) (fun _ h => h) (fun u t H1 locs1 ht hvm hw hB1 hz1 hk1 hS => ?_)
  exact kk H1 locs1 ⟨by rw [← ht]; exact hB1.1, hB1.2.1, hS⟩
theorem rCallSI {y : MethodName} {bytes : ByteArray} {n nn index d : Nat} {ret : Option FieldType} {As st0 : List Value} {r : Int32} (C : Cx g p s m args meth c cc nL own) (hd : Dy g ws s H locs) (hM : Ci l g y bytes n ret d As ws r ws') (hk : LKs own index y bytes n ret nn)
    (hn : As.length = nn) (hsz : ls.size = nL) (hst : st0 = As.reverse ++ rest) (hro : (rest.map fun v => v.category).sum ≤ 8) (hR : d + 1 ≤ R.frames ∧ 8 + (n + 11) + 40 * d ≤ R.locals) (hcs : cells ≤ R.cells ∧ slots ≤ R.slots) (hdg : decode cc pc = .ok (.invokestatic index, 3))
    (kk : ∀ (H1 : Heap) (locs1 : List Loc), Dy g ws' s H1 locs1 → W p l e R s m args below meth c H1 locs1 cells slots Q (F0 m (pc + 3) ls (.int r :: rest))) : W p l e R s m args below meth c H locs cells slots Q (F0 m pc ls st0) := by
  subst hst
  have hB := lkB (R := R) C hk.1 hk.2.2.1 hk.2.2.2.1 hk.2.2.2.2.1 hk.2.2.2.2.2 hR
  obtain ⟨hx, hb, hml, hown, hlocks, hts, hK, hSt, hE⟩ := C
  refine va_calli (va_runS (Ts := []) (As := As) (rest := rest) ⟨hx, hb, hml, hown, fun _ h => by cases h⟩ hM ⟨hB, hts _ hk.2.1 rfl⟩ ⟨Pw.blind, fun U hU hW => ⟨rfl, hd.pw hSt hU hW⟩⟩ rfl hn hsz rfl (lv_room hro) hdg ⟨hcs.1, hcs.2⟩) hd.2.2 (fun _ _ h => h) (fun _ h => h) (fun r1 u t H1 locs1 ht hvm hw hB1 hz1 hk1 hS => ?_)
  subst hw
  exact kk H1 locs1 ⟨by rw [← ht]; exact hB1.1, hB1.2.1, hS⟩
theorem rCallSL {y : MethodName} {bytes : ByteArray} {n nn index d : Nat} {ret : Option FieldType} {As st0 : List Value} {r : Int64} (C : Cx g p s m args meth c cc nL own) (hd : Dy g ws s H locs) (hM : Cl l g y bytes n ret d As ws r ws') (hk : LKs own index y bytes n ret nn)
    (hn : As.length = nn) (hsz : ls.size = nL) (hst : st0 = As.reverse ++ rest) (hro : (rest.map fun v => v.category).sum ≤ 8) (hR : d + 1 ≤ R.frames ∧ 8 + (n + 11) + 40 * d ≤ R.locals) (hcs : cells ≤ R.cells ∧ slots ≤ R.slots) (hdg : decode cc pc = .ok (.invokestatic index, 3))
    (kk : ∀ (H1 : Heap) (locs1 : List Loc), Dy g ws' s H1 locs1 → W p l e R s m args below meth c H1 locs1 cells slots Q (F0 m (pc + 3) ls (.long r :: rest))) : W p l e R s m args below meth c H locs cells slots Q (F0 m pc ls st0) := by
  subst hst
  have hB := lkB (R := R) C hk.1 hk.2.2.1 hk.2.2.2.1 hk.2.2.2.2.1 hk.2.2.2.2.2 hR
  obtain ⟨hx, hb, hml, hown, hlocks, hts, hK, hSt, hE⟩ := C
  refine va_calll (va_runS (Ts := []) (As := As) (rest := rest) ⟨hx, hb, hml, hown, fun _ h => by cases h⟩ hM ⟨hB, hts _ hk.2.1 rfl⟩ ⟨Pw.blind, fun U hU hW => ⟨rfl, hd.pw hSt hU hW⟩⟩ rfl hn hsz rfl (lv_room hro) hdg ⟨hcs.1, hcs.2⟩) hd.2.2 (fun _ _ h => h) (fun _ h => h) (fun r1 u t H1 locs1 ht hvm hw hB1 hz1 hk1 hS => ?_)
  subst hw
  exact kk H1 locs1 ⟨by rw [← ht]; exact hB1.1, hB1.2.1, hS⟩
abbrev QI (g : Gp) (below : List Frame) (args : Array Value) (s : State) (ws' : va_W) (r : Int32) : State → Prop := MQ below (va_Qi (fun (x : Int32) (_ : Unit) => x = r) (fun _ => Pw g ws') (gA g)) args s 0 0 (gA g)
abbrev QL (g : Gp) (below : List Frame) (args : Array Value) (s : State) (ws' : va_W) (r : Int64) : State → Prop := MQ below (va_Ql (fun (x : Int64) (_ : Unit) => x = r) (fun _ => Pw g ws') (gA g)) args s 0 0 (gA g)
abbrev QV (g : Gp) (below : List Frame) (args : Array Value) (s : State) (ws' : va_W) : State → Prop := MQ below (va_Qv (fun (_ : Unit) => True) (fun _ => Pw g ws') (gA g)) args s 0 0 (gA g)
theorem rIret (C : Cx g p s m args meth c cc nL own) (hr : meth.sig.returnType = some .int) (hd : Dy g ws s H locs) {v : Int32} (hdg : decode cc pc = .ok (.ireturn, 1)) : W p l e R s m args below meth c H locs 0 0 (QI g below args s ws v) (F0 m pc ls [.int v]) := by
  obtain ⟨hx, hb, hml, hown, hlocks, hts, hK, hSt, hE⟩ := C
  exact W.iret hx hb hr (fun t ht hW => ⟨⟨v, (), rfl, rfl, hd.pw hSt ht hW⟩, hd.2.2.F ht⟩) hd.2.2.2.2 hdg hlocks
theorem nar01 {v : Int32} (h : v = 0 ∨ v = 1) : narrow .boolean (.int v) = .int v := by
  rcases h with rfl | rfl <;> rfl
theorem rZret (C : Cx g p s m args meth c cc nL own) (hr : meth.sig.returnType = some .boolean) (hd : Dy g ws s H locs) {v : Int32} (hv : v = 0 ∨ v = 1) (hdg : decode cc pc = .ok (.ireturn, 1)) : W p l e R s m args below meth c H locs 0 0 (QI g below args s ws v) (F0 m pc ls [.int v]) := by
  obtain ⟨hx, hb, hml, hown, hlocks, hts, hK, hSt, hE⟩ := C
  exact W.zret hx hb hr (nar01 hv) (fun t ht hW => ⟨⟨v, (), rfl, rfl, hd.pw hSt ht hW⟩, hd.2.2.F ht⟩) hd.2.2.2.2 hdg hlocks
theorem rLret (C : Cx g p s m args meth c cc nL own) (hr : meth.sig.returnType = some .long) (hd : Dy g ws s H locs) {v : Int64} (hdg : decode cc pc = .ok (.lreturn, 1)) : W p l e R s m args below meth c H locs 0 0 (QL g below args s ws v) (F0 m pc ls [.long v]) := by
  obtain ⟨hx, hb, hml, hown, hlocks, hts, hK, hSt, hE⟩ := C
  exact W.lret hx hb hr (fun t ht hW => ⟨⟨v, (), rfl, rfl, hd.pw hSt ht hW⟩, hd.2.2.F ht⟩) hd.2.2.2.2 hdg hlocks
theorem rVret (C : Cx g p s m args meth c cc nL own) (hr : meth.sig.returnType = none) (hd : Dy g ws s H locs) (hdg : decode cc pc = .ok (.return_, 1)) : W p l e R s m args below meth c H locs 0 0 (QV g below args s ws) (F0 m pc ls []) := by
  obtain ⟨hx, hb, hml, hown, hlocks, hts, hK, hSt, hE⟩ := C
  exact W.vret hx hb hr (fun t ht hW => ⟨⟨(), rfl, trivial, hd.pw hSt ht hW⟩, hd.2.2.F ht⟩) hd.2.2.2.2 hdg hlocks
theorem rIretS {X : va_W} {w : St → va_W} {t t' : St} {v r : Int32} (C : Cx g p s m args meth c cc nL own) (hr : meth.sig.returnType = some .int) (hd : Dy g (w t ++ X) s H locs) (h : some (v, t) = some (r, t')) (hdg : decode cc pc = .ok (.ireturn, 1)) : W p l e R s m args below meth c H locs 0 0 (QI g below args s (w t' ++ X) r) (F0 m pc ls [.int v]) := by
  cases h; exact rIret C hr hd hdg
theorem rZretS {X : va_W} {w : St → va_W} {t t' : St} {v r : Int32} (C : Cx g p s m args meth c cc nL own) (hr : meth.sig.returnType = some .boolean) (hd : Dy g (w t ++ X) s H locs) (h : some (v, t) = some (r, t')) (hv : v = 0 ∨ v = 1) (hdg : decode cc pc = .ok (.ireturn, 1)) : W p l e R s m args below meth c H locs 0 0 (QI g below args s (w t' ++ X) r) (F0 m pc ls [.int v]) := by
  cases h; exact rZret C hr hd hv hdg
theorem rVretS {X : va_W} {w : St → va_W} {t t' : St} (C : Cx g p s m args meth c cc nL own) (hr : meth.sig.returnType = none) (hd : Dy g (w t ++ X) s H locs) (h : some t = some t') (hdg : decode cc pc = .ok (.return_, 1)) : W p l e R s m args below meth c H locs 0 0 (QV g below args s (w t' ++ X)) (F0 m pc ls []) := by
  cases h; exact rVret C hr hd hdg
theorem rIretP {v r : Int32} (C : Cx g p s m args meth c cc nL own) (hr : meth.sig.returnType = some .int) (hd : Dy g ws s H locs) (h : some v = some r) (hdg : decode cc pc = .ok (.ireturn, 1)) : W p l e R s m args below meth c H locs 0 0 (QI g below args s ws r) (F0 m pc ls [.int v]) := by
  cases h; exact rIret C hr hd hdg
theorem rZretP {v r : Int32} (C : Cx g p s m args meth c cc nL own) (hr : meth.sig.returnType = some .boolean) (hd : Dy g ws s H locs) (h : some v = some r) (hv : v = 0 ∨ v = 1) (hdg : decode cc pc = .ok (.ireturn, 1)) : W p l e R s m args below meth c H locs 0 0 (QI g below args s ws r) (F0 m pc ls [.int v]) := by
  cases h; exact rZret C hr hd hv hdg
theorem rLretP {v r : Int64} (C : Cx g p s m args meth c cc nL own) (hr : meth.sig.returnType = some .long) (hd : Dy g ws s H locs) (h : some v = some r) (hdg : decode cc pc = .ok (.lreturn, 1)) : W p l e R s m args below meth c H locs 0 0 (QL g below args s ws r) (F0 m pc ls [.long v]) := by
  cases h; exact rLret C hr hd hdg
theorem rTop {x y : Int32} (h : y = x) (k : W p l e R s m args below meth c H locs cells slots Q (F0 m pc ls (.int y :: rest))) : W p l e R s m args below meth c H locs cells slots Q (F0 m pc ls (.int x :: rest)) := h ▸ k
theorem rTopL {x y : Int64} (h : y = x) (k : W p l e R s m args below meth c H locs cells slots Q (F0 m pc ls (.long y :: rest))) : W p l e R s m args below meth c H locs cells slots Q (F0 m pc ls (.long x :: rest)) := h ▸ k
theorem rMax {index : Nat} {x y : Int32} (C : Cx g p s m args meth c cc nL own) (hsz : ls.size = nL) (hlk : Cond.methodLink own index Lib.Math.max.name ∈ lw_tbl) (h2 : Cond.static Lib.Math.max.name ∈ lw_tbl) (h3 : Cond.initialized "java/lang/Math" ∈ lw_tbl) (h4 : Cond.code Lib.Math.max.name Lib.Math.max.code 2 (some .int) ∈ lw_tbl) (hro : 1 ≤ R.frames ∧ (rest.map fun v => v.category).sum + 13 ≤ R.locals) (hcs : cells ≤ R.cells ∧ slots ≤ R.slots) (hdg : decode cc pc = .ok (.invokestatic index, 3))
    (kk : W p l e R s m args below meth c H locs cells slots Q (F0 m (pc + 3) ls (.int (if x < y then y else x) :: rest))) : W p l e R s m args below meth c H locs cells slots Q (F0 m pc ls (.int y :: .int x :: rest)) := by
  obtain ⟨hx, hb, hml, hown, hlocks, hts, hK, hSt, hE⟩ := C
  exact va_mmax hx hb (hml.trans hsz.symm) hown (hts _ hlk rfl) (hts _ h2 rfl) (hts _ h3 rfl) (hts _ h4 rfl) hro.1 hro.2 hcs.1 hcs.2 hdg kk
theorem rMin {index : Nat} {x y : Int32} (C : Cx g p s m args meth c cc nL own) (hsz : ls.size = nL) (hlk : Cond.methodLink own index Lib.Math.min.name ∈ lw_tbl) (h2 : Cond.static Lib.Math.min.name ∈ lw_tbl) (h3 : Cond.initialized "java/lang/Math" ∈ lw_tbl) (h4 : Cond.code Lib.Math.min.name Lib.Math.min.code 2 (some .int) ∈ lw_tbl) (hro : 1 ≤ R.frames ∧ (rest.map fun v => v.category).sum + 13 ≤ R.locals) (hcs : cells ≤ R.cells ∧ slots ≤ R.slots) (hdg : decode cc pc = .ok (.invokestatic index, 3))
    (kk : W p l e R s m args below meth c H locs cells slots Q (F0 m (pc + 3) ls (.int (if y < x then y else x) :: rest))) : W p l e R s m args below meth c H locs cells slots Q (F0 m pc ls (.int y :: .int x :: rest)) := by
  obtain ⟨hx, hb, hml, hown, hlocks, hts, hK, hSt, hE⟩ := C
  exact va_mmin hx hb (hml.trans hsz.symm) hown (hts _ hlk rfl) (hts _ h2 rfl) (hts _ h3 rfl) (hts _ h4 rfl) hro.1 hro.2 hcs.1 hcs.2 hdg kk
theorem rLdc {index : Nat} {v : Int32} (C : Cx g p s m args meth c cc nL own) (hlk : Cond.constant own index v ∈ lw_tbl) (hdg : decode cc pc = .ok (.ldc index, 2)) (kk : W p l e R s m args below meth c H locs cells slots Q (F0 m (pc + 2) ls (.int v :: rest))) : W p l e R s m args below meth c H locs cells slots Q (F0 m pc ls rest) := by
  obtain ⟨hx, hb, hml, hown, hlocks, hts, hK, hSt, hE⟩ := C
  exact lv_ldc hx hb hown (hts _ hlk rfl) hdg kk
theorem rLdcw {index : Nat} {v : Int32} (C : Cx g p s m args meth c cc nL own) (hlk : Cond.constant own index v ∈ lw_tbl) (hdg : decode cc pc = .ok (.ldc_w index, 3)) (kk : W p l e R s m args below meth c H locs cells slots Q (F0 m (pc + 3) ls (.int v :: rest))) : W p l e R s m args below meth c H locs cells slots Q (F0 m pc ls rest) := by
  obtain ⟨hx, hb, hml, hown, hlocks, hts, hK, hSt, hE⟩ := C
  exact lv_ldcw hx hb hown (hts _ hlk rfl) hdg kk
theorem rLdc2 {index : Nat} {v : Int64} (C : Cx g p s m args meth c cc nL own) (hlk : Cond.constantLong own index v ∈ lw_tbl) (hdg : decode cc pc = .ok (.ldc2_w index, 3)) (kk : W p l e R s m args below meth c H locs cells slots Q (F0 m (pc + 3) ls (.long v :: rest))) : W p l e R s m args below meth c H locs cells slots Q (F0 m pc ls rest) := by
  obtain ⟨hx, hb, hml, hown, hlocks, hts, hK, hSt, hE⟩ := C
  exact lv_ldc2 hx hb hown (hts _ hlk rfl) hdg kk
/-- ARGUMENTS, the row that says how many expressions a tell has -/
def argT (i : Nat) : Int32 := ([2, 2, 1, 0, 0, 1, 2, 1, 3, 2] : List Int32).getD i 0
theorem argZ (C : Cx g p s m args meth c cc nL own) : ∃ t : Nat, va_Z "RestoreDesk" "ARGUMENTS" "[I" (.ref t) (gA g) s s.heap ∧ va_T .int t 10 (fun i => .int (argT i)) (gA g) s s.heap := by
  obtain ⟨hx, hb, hml, hown, hlocks, hts, hK, hSt, hE⟩ := C
  have hn := flat_of_before _ hE.2.1
  have hlen : (Term.length (.static "RestoreDesk" "ARGUMENTS" "[I")).eval g.2.2.2.2.2 (gu g) none [] (gu g) = some (.int (Int32.ofNat 10)) := va_eqt (hn (.eq (.length (.static "RestoreDesk" "ARGUMENTS" "[I")) (.int 10)) (by decide +kernel))
  have hel : ∀ j : Nat, j < 10 → (Term.elem (.static "RestoreDesk" "ARGUMENTS" "[I") (.int (Int32.ofNat j))).eval g.2.2.2.2.2 (gu g) none [] (gu g) = some (.int (argT j)) := fun j hj => va_eqt (hn (.eq (.elem (.static "RestoreDesk" "ARGUMENTS" "[I") (.int (Int32.ofNat j))) (.int (argT j))) ((by decide +kernel : ∀ j, j < 10 → Cond.eq (.elem (.static "RestoreDesk" "ARGUMENTS" "[I") (.int (Int32.ofNat j))) (.int (argT j)) ∈ flatC (Jvm.Cond.and given_1 narrow_1)) j hj))
  obtain ⟨t, h1, h2⟩ := va_Tof (tm := .static "RestoreDesk" "ARGUMENTS" "[I") (ty := .int) (N := 10) (f := fun i => .int (argT i)) (A := gA g) (by decide) (hn _ (by decide +kernel)) hlen hel hE.out
  exact ⟨t, (va_Z.moved hSt.1.alike (va_Zof (hE.1 _ (mT 556 (by decide +kernel))) (hE.1 _ (mT 1 (by decide +kernel))) h1 hE.out)).kept (hSt.kept hE), (va_T.moved hSt.1.alike h2).kept (hSt.kept hE)⟩
theorem rArgGet {index t : Nat} {host : String} (C : Cx g p s m args meth c cc nL own) (hd : Dy g ws s H locs) (hZ : va_Z "RestoreDesk" "ARGUMENTS" "[I" (.ref t) (gA g) s s.heap) (hlk : Cond.fieldLinkNest own index "RestoreDesk" "ARGUMENTS" "[I" host ∈ lw_tbl) (hdg : decode cc pc = .ok (.getstatic index, 3))
    (kk : W p l e R s m args below meth c H locs cells slots Q (F0 m (pc + 3) ls (.ref t :: rest))) : W p l e R s m args below meth c H locs cells slots Q (F0 m pc ls rest) := by
  obtain ⟨hx, hb, hml, hown, hlocks, hts, hK, hSt, hE⟩ := C
  exact va_getsN hx hb hZ hd.2.2 hown (va_Nw.use rfl (va_Nw.warmF hSt.1 (va_Nw.of rfl (hE.1 _ hlk)))) (fun _ h => h) hdg kk
theorem rArgLd {t : Nat} {i : Int32} (C : Cx g p s m args meth c cc nL own) (hd : Dy g ws s H locs) (hT : va_T .int t 10 (fun i => .int (argT i)) (gA g) s s.heap) (hin : vp_in i 10) (hdg : decode cc pc = .ok (.iaload, 1))
    (kk : W p l e R s m args below meth c H locs cells slots Q (F0 m (pc + 1) ls (.int (argT i.toNatClampNeg) :: rest))) : W p l e R s m args below meth c H locs cells slots Q (F0 m pc ls (.int i :: .ref t :: rest)) :=
  va_ti C.1 C.2.1 hT hd.2.2 hin rfl hdg kk
theorem rArgLen {t : Nat} (C : Cx g p s m args meth c cc nL own) (hd : Dy g ws s H locs) (hT : va_T .int t 10 (fun i => .int (argT i)) (gA g) s s.heap) (hdg : decode cc pc = .ok (.arraylength, 1))
    (kk : W p l e R s m args below meth c H locs cells slots Q (F0 m (pc + 1) ls (.int 10 :: rest))) : W p l e R s m args below meth c H locs cells slots Q (F0 m pc ls (.ref t :: rest)) :=
  va_tlen C.1 C.2.1 hT hd.2.2 rfl hdg kk
end RW
