set_option maxRecDepth 100000 in
set_option maxHeartbeats 4000000 in
theorem strStart {s : State} {a : Array Value} (hgv : (Jvm.Cond.and given_1 narrow_1).before a s = true) : ∃ adK adV : Nat → Nat, vk_S 6 lenS bytS adK adV (fun q => s.heap.size ≤ q) s s.heap ∧ ∀ i : Nat, i < 6 → (tmS i).eval a s none [] s = some (.ref (adK i)) := by
  have hn := flat_of_before _ hgv
  exact vk_Sof (tm := tmS) (by decide)
    (fun i hi => by
      rcases (show i = 0 ∨ i = 1 ∨ i = 2 ∨ i = 3 ∨ i = 4 ∨ i = 5 by omega) with rfl | rfl | rfl | rfl | rfl | rfl
      · exact hn _ (List.mem_of_getElem? (i := 228) (by decide +kernel))
      · exact hn _ (List.mem_of_getElem? (i := 392) (by decide +kernel))
      · exact hn _ (List.mem_of_getElem? (i := 405) (by decide +kernel))
      · exact hn _ (List.mem_of_getElem? (i := 413) (by decide +kernel))
      · exact hn _ (List.mem_of_getElem? (i := 424) (by decide +kernel))
      · exact hn _ (List.mem_of_getElem? (i := 438) (by decide +kernel)))
    (fun i hi => by
      rcases (show i = 0 ∨ i = 1 ∨ i = 2 ∨ i = 3 ∨ i = 4 ∨ i = 5 by omega) with rfl | rfl | rfl | rfl | rfl | rfl
      · exact hn _ (List.mem_of_getElem? (i := 229) (by decide +kernel))
      · exact hn _ (List.mem_of_getElem? (i := 393) (by decide +kernel))
      · exact hn _ (List.mem_of_getElem? (i := 406) (by decide +kernel))
      · exact hn _ (List.mem_of_getElem? (i := 414) (by decide +kernel))
      · exact hn _ (List.mem_of_getElem? (i := 425) (by decide +kernel))
      · exact hn _ (List.mem_of_getElem? (i := 439) (by decide +kernel)))
    (fun i hi => by
      rcases (show i = 0 ∨ i = 1 ∨ i = 2 ∨ i = 3 ∨ i = 4 ∨ i = 5 by omega) with rfl | rfl | rfl | rfl | rfl | rfl
      · exact hn _ (List.mem_of_getElem? (i := 230) (by decide +kernel))
      · exact hn _ (List.mem_of_getElem? (i := 394) (by decide +kernel))
      · exact hn _ (List.mem_of_getElem? (i := 407) (by decide +kernel))
      · exact hn _ (List.mem_of_getElem? (i := 415) (by decide +kernel))
      · exact hn _ (List.mem_of_getElem? (i := 426) (by decide +kernel))
      · exact hn _ (List.mem_of_getElem? (i := 440) (by decide +kernel)))
    (fun i hi => by
      rcases (show i = 0 ∨ i = 1 ∨ i = 2 ∨ i = 3 ∨ i = 4 ∨ i = 5 by omega) with rfl | rfl | rfl | rfl | rfl | rfl
      · exact hn _ (List.mem_of_getElem? (i := 231) (by decide +kernel))
      · exact hn _ (List.mem_of_getElem? (i := 395) (by decide +kernel))
      · exact hn _ (List.mem_of_getElem? (i := 408) (by decide +kernel))
      · exact hn _ (List.mem_of_getElem? (i := 416) (by decide +kernel))
      · exact hn _ (List.mem_of_getElem? (i := 427) (by decide +kernel))
      · exact hn _ (List.mem_of_getElem? (i := 441) (by decide +kernel)))
    (fun i hi => by
      rcases (show i = 0 ∨ i = 1 ∨ i = 2 ∨ i = 3 ∨ i = 4 ∨ i = 5 by omega) with rfl | rfl | rfl | rfl | rfl | rfl
      · exact fun j hj => hn _ (va_run (p := 232) (N := 160) (f := fun j => Cond.eq (.elem (.field (tmS 0) "java/lang/String" "value" "[B") (.int (Int32.ofNat j))) (.int ((bytS.getD 0 []).getD j 0))) (by decide +kernel) j hj)
      · exact fun j hj => hn _ (va_run (p := 396) (N := 8) (f := fun j => Cond.eq (.elem (.field (tmS 1) "java/lang/String" "value" "[B") (.int (Int32.ofNat j))) (.int ((bytS.getD 1 []).getD j 0))) (by decide +kernel) j hj)
      · exact fun j hj => hn _ (va_run (p := 409) (N := 2) (f := fun j => Cond.eq (.elem (.field (tmS 2) "java/lang/String" "value" "[B") (.int (Int32.ofNat j))) (.int ((bytS.getD 2 []).getD j 0))) (by decide +kernel) j hj)
      · exact fun j hj => hn _ (va_run (p := 417) (N := 4) (f := fun j => Cond.eq (.elem (.field (tmS 3) "java/lang/String" "value" "[B") (.int (Int32.ofNat j))) (.int ((bytS.getD 3 []).getD j 0))) (by decide +kernel) j hj)
      · exact fun j hj => hn _ (va_run (p := 428) (N := 6) (f := fun j => Cond.eq (.elem (.field (tmS 4) "java/lang/String" "value" "[B") (.int (Int32.ofNat j))) (.int ((bytS.getD 4 []).getD j 0))) (by decide +kernel) j hj)
      · exact fun j hj => hn _ (va_run (p := 442) (N := 5) (f := fun j => Cond.eq (.elem (.field (tmS 5) "java/lang/String" "value" "[B") (.int (Int32.ofNat j))) (.int ((bytS.getD 5 []).getD j 0))) (by decide +kernel) j hj))
    (fun i j hi hj hij => by
      rcases (show i = 0 ∨ i = 1 ∨ i = 2 ∨ i = 3 ∨ i = 4 ∨ i = 5 by omega) with rfl | rfl | rfl | rfl | rfl | rfl <;> rcases (show j = 0 ∨ j = 1 ∨ j = 2 ∨ j = 3 ∨ j = 4 ∨ j = 5 by omega) with rfl | rfl | rfl | rfl | rfl | rfl
      · exact absurd rfl hij
      · exact Or.inl (hn _ (List.mem_of_getElem? (i := 404) (by decide +kernel)))
      · exact Or.inl (hn _ (List.mem_of_getElem? (i := 411) (by decide +kernel)))
      · exact Or.inl (hn _ (List.mem_of_getElem? (i := 421) (by decide +kernel)))
      · exact Or.inl (hn _ (List.mem_of_getElem? (i := 434) (by decide +kernel)))
      · exact Or.inl (hn _ (List.mem_of_getElem? (i := 447) (by decide +kernel)))
      · exact Or.inr (hn _ (List.mem_of_getElem? (i := 404) (by decide +kernel)))
      · exact absurd rfl hij
      · exact Or.inl (hn _ (List.mem_of_getElem? (i := 412) (by decide +kernel)))
      · exact Or.inl (hn _ (List.mem_of_getElem? (i := 422) (by decide +kernel)))
      · exact Or.inl (hn _ (List.mem_of_getElem? (i := 435) (by decide +kernel)))
      · exact Or.inl (hn _ (List.mem_of_getElem? (i := 448) (by decide +kernel)))
      · exact Or.inr (hn _ (List.mem_of_getElem? (i := 411) (by decide +kernel)))
      · exact Or.inr (hn _ (List.mem_of_getElem? (i := 412) (by decide +kernel)))
      · exact absurd rfl hij
      · exact Or.inl (hn _ (List.mem_of_getElem? (i := 423) (by decide +kernel)))
      · exact Or.inl (hn _ (List.mem_of_getElem? (i := 436) (by decide +kernel)))
      · exact Or.inl (hn _ (List.mem_of_getElem? (i := 449) (by decide +kernel)))
      · exact Or.inr (hn _ (List.mem_of_getElem? (i := 421) (by decide +kernel)))
      · exact Or.inr (hn _ (List.mem_of_getElem? (i := 422) (by decide +kernel)))
      · exact Or.inr (hn _ (List.mem_of_getElem? (i := 423) (by decide +kernel)))
      · exact absurd rfl hij
      · exact Or.inl (hn _ (List.mem_of_getElem? (i := 437) (by decide +kernel)))
      · exact Or.inl (hn _ (List.mem_of_getElem? (i := 450) (by decide +kernel)))
      · exact Or.inr (hn _ (List.mem_of_getElem? (i := 434) (by decide +kernel)))
      · exact Or.inr (hn _ (List.mem_of_getElem? (i := 435) (by decide +kernel)))
      · exact Or.inr (hn _ (List.mem_of_getElem? (i := 436) (by decide +kernel)))
      · exact Or.inr (hn _ (List.mem_of_getElem? (i := 437) (by decide +kernel)))
      · exact absurd rfl hij
      · exact Or.inl (hn _ (List.mem_of_getElem? (i := 451) (by decide +kernel)))
      · exact Or.inr (hn _ (List.mem_of_getElem? (i := 447) (by decide +kernel)))
      · exact Or.inr (hn _ (List.mem_of_getElem? (i := 448) (by decide +kernel)))
      · exact Or.inr (hn _ (List.mem_of_getElem? (i := 449) (by decide +kernel)))
      · exact Or.inr (hn _ (List.mem_of_getElem? (i := 450) (by decide +kernel)))
      · exact Or.inr (hn _ (List.mem_of_getElem? (i := 451) (by decide +kernel)))
      · exact absurd rfl hij)
    (fun a h => Nat.not_le.mpr h)
