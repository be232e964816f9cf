/-! THE CLAIM OUT OF ONE WALK OF THE LAW'S BODY. Your part is whole_start (and what it stands on); all else here is the same for every law, but numbers. -/
def R_law : String := "RestoreDeskLaw"
def lw_P (b : Addr) (xs : List Int32) (args : Array Value) (s : State) : Prop := args = #[.ref b] ∧ s.IntsAt b xs ∧ xs.length ≤ 3072 ∧ (Jvm.Cond.and given_1 narrow_1).before args s = true
def lw_Q (_ : Array Value) (s : State) (o : Outcome) (t : State) : Prop := o = .returned (some (.int 1)) ∧ Framed s o t [] 600000 7302250
def lw_Z (below : List Frame) (a : Array Value) (s : State) : State → Prop := fun t => ∃ o, t.status = .running ∧ Ended t below o ∧ lw_Q a s o t
/-- the law's own end, with 1 on the stack, nothing written that was there before, its room as the claim has it -/
theorem lw_ret {p : Program} {l : Launch} {e : Env} {s : State} {m : MethodId} {below : List Frame} {meth : Method} {c : Code} {b : Nat} (hx : p.tables.exec = Jvm.exec) (hb : c.code = code) (hr : meth.sig.returnType = ret) (hlocks : meth.locks = false) {pc : Nat} {H : Heap} {ls : Array Slot} (hdg : decode code pc = .ok (.ireturn, 1)) : W p l e room_1 s m #[Value.ref b] below meth c H [] 600000 7302250 (lw_Z below #[Value.ref b] s) (F0 m pc ls [.int 1]) := by
  intro T hT X
  obtain ⟨fs, hret, hrun, hended, hW, hframe⟩ := X.leave (v := some (.int 1)) (hlocks := hlocks) (fun h => by rw [hr] at h; cases h)
  have hmeth' : T.vm.method? m = some meth := X.method'
  refine ⟨T.setFrames fs, ?_, .returned (some (.int 1)), hrun, hended, rfl, ⟨_, rfl⟩, hW, hframe⟩
  jvm_step X.here [X.here.top, hx, hb, hdg, hmeth', hr, ret, narrow_b1]
  (try refine ⟨rfl, ?_⟩); (try refine ⟨rfl, ?_⟩)
  first | (intro acts; rw [hret _ acts rfl rfl rfl]) | rw [hret _ _ rfl rfl rfl]
  exact Steps.refl _
/-- what holds at the law's entry: the machine, the code, the tables' words (any of lw_tbl by 'hts w (by decide +kernel)'), the script of L ints xs at the cell b, what the Statement gives of the start (any of its parts by flat_of_before) -/
def lw_At (p : Program) (s : State) (m : MethodId) (meth : Method) (c : Code) (b L : Nat) (xs : Nat → Int32) : Prop :=
  p.tables.exec = Jvm.exec ∧ c.code = code ∧ meth.sig.returnType = ret ∧ c.maxLocals = 4 ∧ s.vm.findClass R_law = some m.cls ∧ (∀ w ∈ lw_tbl, w.before #[Value.ref b] s = true) ∧ va_X b L xs s s.heap ∧ b < s.heap.size ∧ meth.locks = false ∧ (Jvm.Cond.and given_1 narrow_1).before #[Value.ref b] s = true

/-- what a hold and an again need of the rows of bytes -/
def fitBb (σ : St) : Bool := ((List.range 600).all fun i => fits .byte (.int (σ.2.1 15 i))) && ((List.range 960).all fun i => fits .byte (.int (σ.2.1 18 i)))
theorem fitBb_e {σ : St} (h : fitBb σ = true) : fitB σ := by
  unfold fitBb at h
  rw [Bool.and_eq_true, List.all_eq_true, List.all_eq_true] at h
  exact ⟨fun i hi => h.1 i (List.mem_range.mpr hi), fun i hi => h.2 i (List.mem_range.mpr hi)⟩
/-- a boolean of the script -/
def bz (a : Int32) : Int32 := if a = 0 then 0 else 1
abbrev Kt : Type := St → St → (Nat → Bool) → (Nat → St) → Option Int32
def LC (g : Gp) (p : Program) (s : State) (m : MethodId) (b L : Nat) (xs : Nat → Int32) (meth : Method) (c : Code) : Prop := Cx g p s m #[.ref b] meth c code 4 RL ∧ g.2.2.2.1 = s.heap.size ∧ va_X b L xs s s.heap ∧ b < s.heap.size
theorem wl_perm {a b c : va_W} : (a ++ (b ++ c)).Perm (c ++ (a ++ b)) := by
  rw [← List.append_assoc]
  exact List.perm_append_comm
section LS
variable {p : Program} {l : Launch} {e : Env} {R : Room} {s : State} {m : MethodId} {args : Array Value} {below : List Frame} {meth : Method} {c : Code} {H : Heap} {locs : List Loc} {cells slots : Nat} {Q : State → Prop}
variable {g : Gp} {pc : Nat} {ls : Array Slot} {rest : List Value} {ws : va_W} {b L : Nat} {xs : Nat → Int32}
theorem rScr {j q : Nat} (C : LC g p s m b L xs meth c) (hd : Dy g ws s H locs) (hL : L ≤ 3072) (hj : 6 * j + 6 ≤ L) (hq : q ≤ 5) (d1 : decode code pc = .ok (.iadd, 1)) (d2 : decode code (pc + 1) = .ok (.iaload, 1))
    (kk : W p l e R s m args below meth c H locs cells slots Q (F0 m (pc + 2) ls (.int (xs (6 * j + q)) :: rest))) : W p l e R s m args below meth c H locs cells slots Q (F0 m pc ls (.int (nI q) :: .int (nI (6 * j)) :: .ref b :: rest)) := by
  obtain ⟨⟨hx, hb, -⟩, hz, hX, hbl⟩ := C
  refine lv_iadd hx hb d1 ?_
  have e1 : nI (6 * j + q) = nI (6 * j) + nI q := (Int32.ofNat_add (6 * j) q)
  refine rTop e1 ?_
  refine va_sld (A := gA g) hx hb hX hbl (fun z => by have z1 : g.2.2.2.1 ≤ b := z; omega) hd.2.2 (nI_in (by omega) (by omega)) d2 ?_
  refine rTop (show xs (6 * j + q) = xs (nI (6 * j + q)).toNatClampNeg by rw [nI_clamp (by omega)]) ?_
  exact kk
end LS
theorem kL_13 : LKv RL 13 yX7_feed cX7_feed 6 (some .int) 5 := ⟨mT 359 (by decide +kernel), mT 360 (by decide +kernel), mT 361 (by decide +kernel), mT 1 (by decide +kernel), mT 362 (by decide +kernel), ⟨by decide +kernel, by decide +kernel⟩, by decide +kernel⟩
theorem kL_17 : LKv RL 17 yX8_feed cX8_feed 6 (some .int) 5 := ⟨mT 1461 (by decide +kernel), mT 1462 (by decide +kernel), mT 1463 (by decide +kernel), mT 13 (by decide +kernel), mT 1464 (by decide +kernel), ⟨by decide +kernel, by decide +kernel⟩, by decide +kernel⟩
theorem kL_18 : LKv RL 18 yX7_back cX7_back 2 (some .int) 1 := ⟨mT 367 (by decide +kernel), mT 368 (by decide +kernel), mT 369 (by decide +kernel), mT 1 (by decide +kernel), mT 370 (by decide +kernel), ⟨by decide +kernel, by decide +kernel⟩, by decide +kernel⟩
theorem kL_22 : LKv RL 22 yX8_back cX8_back 2 (some .int) 1 := ⟨mT 1469 (by decide +kernel), mT 1470 (by decide +kernel), mT 1471 (by decide +kernel), mT 13 (by decide +kernel), mT 1472 (by decide +kernel), ⟨by decide +kernel, by decide +kernel⟩, by decide +kernel⟩
theorem kL_23 : LKv RL 23 yX7_read cX7_read 1 (some .int) 0 := ⟨mT 371 (by decide +kernel), mT 372 (by decide +kernel), mT 373 (by decide +kernel), mT 1 (by decide +kernel), mT 374 (by decide +kernel), ⟨by decide +kernel, by decide +kernel⟩, by decide +kernel⟩
theorem kL_27 : LKv RL 27 yX8_read cX8_read 4 (some .int) 0 := ⟨mT 1473 (by decide +kernel), mT 1474 (by decide +kernel), mT 1475 (by decide +kernel), mT 13 (by decide +kernel), mT 1476 (by decide +kernel), ⟨by decide +kernel, by decide +kernel⟩, by decide +kernel⟩
theorem kL_28 : LKv RL 28 yX7_place cX7_place 1 (some .int) 0 := ⟨mT 829 (by decide +kernel), mT 830 (by decide +kernel), mT 831 (by decide +kernel), mT 1 (by decide +kernel), mT 832 (by decide +kernel), ⟨by decide +kernel, by decide +kernel⟩, by decide +kernel⟩
theorem kL_31 : LKv RL 31 yX8_place cX8_place 1 (some .int) 0 := ⟨mT 1721 (by decide +kernel), mT 1722 (by decide +kernel), mT 1723 (by decide +kernel), mT 13 (by decide +kernel), mT 1724 (by decide +kernel), ⟨by decide +kernel, by decide +kernel⟩, by decide +kernel⟩
theorem kL_32 : LKv RL 32 yX7_write cX7_write 3 (some .int) 2 := ⟨mT 833 (by decide +kernel), mT 642 (by decide +kernel), mT 643 (by decide +kernel), mT 1 (by decide +kernel), mT 644 (by decide +kernel), ⟨by decide +kernel, by decide +kernel⟩, by decide +kernel⟩
theorem kL_36 : LKv RL 36 yX8_write cX8_write 3 (some .int) 2 := ⟨mT 1725 (by decide +kernel), mT 1574 (by decide +kernel), mT 1575 (by decide +kernel), mT 13 (by decide +kernel), mT 1576 (by decide +kernel), ⟨by decide +kernel, by decide +kernel⟩, by decide +kernel⟩
theorem kL_37 : LKv RL 37 yX7_add cX7_add 3 (some .int) 2 := ⟨mT 834 (by decide +kernel), mT 675 (by decide +kernel), mT 676 (by decide +kernel), mT 1 (by decide +kernel), mT 677 (by decide +kernel), ⟨by decide +kernel, by decide +kernel⟩, by decide +kernel⟩
theorem kL_40 : LKv RL 40 yX8_add cX8_add 3 (some .int) 2 := ⟨mT 1726 (by decide +kernel), mT 1594 (by decide +kernel), mT 1595 (by decide +kernel), mT 13 (by decide +kernel), mT 1596 (by decide +kernel), ⟨by decide +kernel, by decide +kernel⟩, by decide +kernel⟩
theorem kL_41 : LKv RL 41 yX7_mark cX7_mark 2 (some .int) 1 := ⟨mT 835 (by decide +kernel), mT 679 (by decide +kernel), mT 680 (by decide +kernel), mT 1 (by decide +kernel), mT 681 (by decide +kernel), ⟨by decide +kernel, by decide +kernel⟩, by decide +kernel⟩
theorem kL_44 : LKv RL 44 yX8_mark cX8_mark 2 (some .int) 1 := ⟨mT 1727 (by decide +kernel), mT 1598 (by decide +kernel), mT 1599 (by decide +kernel), mT 13 (by decide +kernel), mT 1600 (by decide +kernel), ⟨by decide +kernel, by decide +kernel⟩, by decide +kernel⟩
theorem kL_45 : LKv RL 45 yX7_fill cX7_fill 3 (some .int) 0 := ⟨mT 836 (by decide +kernel), mT 683 (by decide +kernel), mT 684 (by decide +kernel), mT 1 (by decide +kernel), mT 685 (by decide +kernel), ⟨by decide +kernel, by decide +kernel⟩, by decide +kernel⟩
theorem kL_48 : LKv RL 48 yX8_fill cX8_fill 4 (some .int) 0 := ⟨mT 1728 (by decide +kernel), mT 1602 (by decide +kernel), mT 1603 (by decide +kernel), mT 13 (by decide +kernel), mT 1604 (by decide +kernel), ⟨by decide +kernel, by decide +kernel⟩, by decide +kernel⟩
theorem kL_49 : LKv RL 49 yX7_copy cX7_copy 2 (some .int) 1 := ⟨mT 837 (by decide +kernel), mT 689 (by decide +kernel), mT 690 (by decide +kernel), mT 1 (by decide +kernel), mT 691 (by decide +kernel), ⟨by decide +kernel, by decide +kernel⟩, by decide +kernel⟩
theorem kL_52 : LKv RL 52 yX8_copy cX8_copy 2 (some .int) 1 := ⟨mT 1729 (by decide +kernel), mT 1606 (by decide +kernel), mT 1607 (by decide +kernel), mT 13 (by decide +kernel), mT 1608 (by decide +kernel), ⟨by decide +kernel, by decide +kernel⟩, by decide +kernel⟩
theorem kL_53 : LKv RL 53 yX7_take cX7_take 5 (some .boolean) 2 := ⟨mT 838 (by decide +kernel), mT 701 (by decide +kernel), mT 702 (by decide +kernel), mT 1 (by decide +kernel), mT 703 (by decide +kernel), ⟨by decide +kernel, by decide +kernel⟩, by decide +kernel⟩
theorem kL_57 : LKv RL 57 yX8_take cX8_take 4 (some .boolean) 2 := ⟨mT 1730 (by decide +kernel), mT 1618 (by decide +kernel), mT 1619 (by decide +kernel), mT 13 (by decide +kernel), mT 1620 (by decide +kernel), ⟨by decide +kernel, by decide +kernel⟩, by decide +kernel⟩
theorem kL_58 : LKv RL 58 yX7_close cX7_close 2 (some .boolean) 1 := ⟨mT 839 (by decide +kernel), mT 739 (by decide +kernel), mT 740 (by decide +kernel), mT 1 (by decide +kernel), mT 741 (by decide +kernel), ⟨by decide +kernel, by decide +kernel⟩, by decide +kernel⟩
theorem kL_62 : LKv RL 62 yX8_close cX8_close 2 (some .boolean) 1 := ⟨mT 1731 (by decide +kernel), mT 1654 (by decide +kernel), mT 1655 (by decide +kernel), mT 13 (by decide +kernel), mT 1656 (by decide +kernel), ⟨by decide +kernel, by decide +kernel⟩, by decide +kernel⟩
theorem kL_63 : LKv RL 63 yX7_combine cX7_combine 5 (some .int) 1 := ⟨mT 840 (by decide +kernel), mT 841 (by decide +kernel), mT 842 (by decide +kernel), mT 1 (by decide +kernel), mT 843 (by decide +kernel), ⟨by decide +kernel, by decide +kernel⟩, by decide +kernel⟩
theorem kL_66 : LKv RL 66 yX8_combine cX8_combine 5 (some .int) 1 := ⟨mT 1732 (by decide +kernel), mT 1733 (by decide +kernel), mT 1734 (by decide +kernel), mT 13 (by decide +kernel), mT 1735 (by decide +kernel), ⟨by decide +kernel, by decide +kernel⟩, by decide +kernel⟩
theorem kL_67 : LKv RL 67 yX7_drop cX7_drop 2 (some .boolean) 1 := ⟨mT 852 (by decide +kernel), mT 853 (by decide +kernel), mT 854 (by decide +kernel), mT 1 (by decide +kernel), mT 855 (by decide +kernel), ⟨by decide +kernel, by decide +kernel⟩, by decide +kernel⟩
theorem kL_70 : LKv RL 70 yX8_drop cX8_drop 3 (some .boolean) 1 := ⟨mT 1736 (by decide +kernel), mT 1737 (by decide +kernel), mT 1738 (by decide +kernel), mT 13 (by decide +kernel), mT 1739 (by decide +kernel), ⟨by decide +kernel, by decide +kernel⟩, by decide +kernel⟩
theorem kL_71 : LKv RL 71 yX7_restore cX7_restore 5 (some .int) 3 := ⟨mT 868 (by decide +kernel), mT 748 (by decide +kernel), mT 749 (by decide +kernel), mT 1 (by decide +kernel), mT 750 (by decide +kernel), ⟨by decide +kernel, by decide +kernel⟩, by decide +kernel⟩
theorem kL_75 : LKv RL 75 yX8_restore cX8_restore 5 (some .int) 3 := ⟨mT 1740 (by decide +kernel), mT 1658 (by decide +kernel), mT 1659 (by decide +kernel), mT 13 (by decide +kernel), mT 1660 (by decide +kernel), ⟨by decide +kernel, by decide +kernel⟩, by decide +kernel⟩
theorem kL_76 : LKv RL 76 yX7_lose cX7_lose 3 (some .boolean) 2 := ⟨mT 869 (by decide +kernel), mT 821 (by decide +kernel), mT 822 (by decide +kernel), mT 1 (by decide +kernel), mT 823 (by decide +kernel), ⟨by decide +kernel, by decide +kernel⟩, by decide +kernel⟩
theorem kL_79 : LKv RL 79 yX8_lose cX8_lose 3 (some .boolean) 2 := ⟨mT 1741 (by decide +kernel), mT 1714 (by decide +kernel), mT 1715 (by decide +kernel), mT 13 (by decide +kernel), mT 1716 (by decide +kernel), ⟨by decide +kernel, by decide +kernel⟩, by decide +kernel⟩
theorem kL_80 : LKv RL 80 yX7_twice cX7_twice 6 (some .boolean) 3 := ⟨mT 870 (by decide +kernel), mT 871 (by decide +kernel), mT 872 (by decide +kernel), mT 1 (by decide +kernel), mT 873 (by decide +kernel), ⟨by decide +kernel, by decide +kernel⟩, by decide +kernel⟩
theorem kL_84 : LKv RL 84 yX8_twice cX8_twice 5 (some .boolean) 3 := ⟨mT 1742 (by decide +kernel), mT 1743 (by decide +kernel), mT 1744 (by decide +kernel), mT 13 (by decide +kernel), mT 1745 (by decide +kernel), ⟨by decide +kernel, by decide +kernel⟩, by decide +kernel⟩
theorem kL_85 : LKv RL 85 yX7_page cX7_page 4 (some .int) 3 := ⟨mT 874 (by decide +kernel), mT 875 (by decide +kernel), mT 876 (by decide +kernel), mT 1 (by decide +kernel), mT 877 (by decide +kernel), ⟨by decide +kernel, by decide +kernel⟩, by decide +kernel⟩
theorem kL_88 : LKv RL 88 yX8_page cX8_page 4 (some .int) 3 := ⟨mT 1746 (by decide +kernel), mT 1747 (by decide +kernel), mT 1748 (by decide +kernel), mT 13 (by decide +kernel), mT 1749 (by decide +kernel), ⟨by decide +kernel, by decide +kernel⟩, by decide +kernel⟩
theorem kL_89 : LKv RL 89 yX7_record cX7_record 5 (some .int) 3 := ⟨mT 879 (by decide +kernel), mT 880 (by decide +kernel), mT 881 (by decide +kernel), mT 1 (by decide +kernel), mT 882 (by decide +kernel), ⟨by decide +kernel, by decide +kernel⟩, by decide +kernel⟩
theorem kL_92 : LKv RL 92 yX8_record cX8_record 4 (some .int) 3 := ⟨mT 1750 (by decide +kernel), mT 1751 (by decide +kernel), mT 1752 (by decide +kernel), mT 13 (by decide +kernel), mT 1753 (by decide +kernel), ⟨by decide +kernel, by decide +kernel⟩, by decide +kernel⟩
theorem kL_93 : LKv RL 93 yX7_value cX7_value 3 (some .int) 2 := ⟨mT 897 (by decide +kernel), mT 898 (by decide +kernel), mT 899 (by decide +kernel), mT 1 (by decide +kernel), mT 900 (by decide +kernel), ⟨by decide +kernel, by decide +kernel⟩, by decide +kernel⟩
theorem kL_96 : LKv RL 96 yX8_value cX8_value 3 (some .int) 2 := ⟨mT 1759 (by decide +kernel), mT 1760 (by decide +kernel), mT 1761 (by decide +kernel), mT 13 (by decide +kernel), mT 1762 (by decide +kernel), ⟨by decide +kernel, by decide +kernel⟩, by decide +kernel⟩
theorem kL_97 : LKv RL 97 yX7_line cX7_line 3 (some .int) 2 := ⟨mT 905 (by decide +kernel), mT 906 (by decide +kernel), mT 907 (by decide +kernel), mT 1 (by decide +kernel), mT 908 (by decide +kernel), ⟨by decide +kernel, by decide +kernel⟩, by decide +kernel⟩
theorem kL_100 : LKv RL 100 yX8_line cX8_line 3 (some .int) 2 := ⟨mT 1763 (by decide +kernel), mT 1764 (by decide +kernel), mT 1765 (by decide +kernel), mT 13 (by decide +kernel), mT 1766 (by decide +kernel), ⟨by decide +kernel, by decide +kernel⟩, by decide +kernel⟩
theorem kL_101 : LKv RL 101 yX7_piece cX7_piece 3 (some .int) 2 := ⟨mT 924 (by decide +kernel), mT 925 (by decide +kernel), mT 926 (by decide +kernel), mT 1 (by decide +kernel), mT 927 (by decide +kernel), ⟨by decide +kernel, by decide +kernel⟩, by decide +kernel⟩
theorem kL_104 : LKv RL 104 yX8_piece cX8_piece 3 (some .int) 2 := ⟨mT 1771 (by decide +kernel), mT 1772 (by decide +kernel), mT 1773 (by decide +kernel), mT 13 (by decide +kernel), mT 1774 (by decide +kernel), ⟨by decide +kernel, by decide +kernel⟩, by decide +kernel⟩
theorem kL_105 : LKv RL 105 yX7_made cX7_made 3 (some .int) 2 := ⟨mT 928 (by decide +kernel), mT 929 (by decide +kernel), mT 930 (by decide +kernel), mT 1 (by decide +kernel), mT 931 (by decide +kernel), ⟨by decide +kernel, by decide +kernel⟩, by decide +kernel⟩
theorem kL_108 : LKv RL 108 yX8_made cX8_made 3 (some .int) 2 := ⟨mT 1815 (by decide +kernel), mT 1816 (by decide +kernel), mT 1817 (by decide +kernel), mT 13 (by decide +kernel), mT 1818 (by decide +kernel), ⟨by decide +kernel, by decide +kernel⟩, by decide +kernel⟩
theorem kL_109 : LKv RL 109 yX7_source cX7_source 3 (some .int) 2 := ⟨mT 946 (by decide +kernel), mT 947 (by decide +kernel), mT 948 (by decide +kernel), mT 1 (by decide +kernel), mT 949 (by decide +kernel), ⟨by decide +kernel, by decide +kernel⟩, by decide +kernel⟩
theorem kL_112 : LKv RL 112 yX8_source cX8_source 3 (some .int) 2 := ⟨mT 1827 (by decide +kernel), mT 1828 (by decide +kernel), mT 1829 (by decide +kernel), mT 13 (by decide +kernel), mT 1830 (by decide +kernel), ⟨by decide +kernel, by decide +kernel⟩, by decide +kernel⟩
theorem kL_113 : LKv RL 113 yX7_taken cX7_taken 3 (some .int) 2 := ⟨mT 950 (by decide +kernel), mT 951 (by decide +kernel), mT 952 (by decide +kernel), mT 1 (by decide +kernel), mT 953 (by decide +kernel), ⟨by decide +kernel, by decide +kernel⟩, by decide +kernel⟩
theorem kL_116 : LKv RL 116 yX8_taken cX8_taken 3 (some .int) 2 := ⟨mT 1835 (by decide +kernel), mT 1836 (by decide +kernel), mT 1837 (by decide +kernel), mT 13 (by decide +kernel), mT 1838 (by decide +kernel), ⟨by decide +kernel, by decide +kernel⟩, by decide +kernel⟩
theorem kL_117 : LKv RL 117 yX7_held cX7_held 3 (some .int) 2 := ⟨mT 954 (by decide +kernel), mT 955 (by decide +kernel), mT 956 (by decide +kernel), mT 1 (by decide +kernel), mT 957 (by decide +kernel), ⟨by decide +kernel, by decide +kernel⟩, by decide +kernel⟩
theorem kL_120 : LKv RL 120 yX8_held cX8_held 3 (some .int) 2 := ⟨mT 1839 (by decide +kernel), mT 1840 (by decide +kernel), mT 1841 (by decide +kernel), mT 13 (by decide +kernel), mT 1842 (by decide +kernel), ⟨by decide +kernel, by decide +kernel⟩, by decide +kernel⟩
theorem kL_121 : LKv RL 121 yX7_would cX7_would 4 (some .int) 3 := ⟨mT 958 (by decide +kernel), mT 959 (by decide +kernel), mT 960 (by decide +kernel), mT 1 (by decide +kernel), mT 961 (by decide +kernel), ⟨by decide +kernel, by decide +kernel⟩, by decide +kernel⟩
theorem kL_124 : LKv RL 124 yX8_would cX8_would 4 (some .int) 3 := ⟨mT 1851 (by decide +kernel), mT 1852 (by decide +kernel), mT 1853 (by decide +kernel), mT 13 (by decide +kernel), mT 1854 (by decide +kernel), ⟨by decide +kernel, by decide +kernel⟩, by decide +kernel⟩
theorem kL_125 : LKv RL 125 yX7_named cX7_named 6 (some .int) 4 := ⟨mT 962 (by decide +kernel), mT 963 (by decide +kernel), mT 964 (by decide +kernel), mT 1 (by decide +kernel), mT 965 (by decide +kernel), ⟨by decide +kernel, by decide +kernel⟩, by decide +kernel⟩
theorem kL_129 : LKv RL 129 yX8_named cX8_named 5 (some .int) 4 := ⟨mT 1855 (by decide +kernel), mT 1856 (by decide +kernel), mT 1857 (by decide +kernel), mT 13 (by decide +kernel), mT 1858 (by decide +kernel), ⟨by decide +kernel, by decide +kernel⟩, by decide +kernel⟩
theorem kL_130 : LKv RL 130 yX7_needs cX7_needs 6 (some .int) 4 := ⟨mT 1134 (by decide +kernel), mT 1135 (by decide +kernel), mT 1136 (by decide +kernel), mT 1 (by decide +kernel), mT 1137 (by decide +kernel), ⟨by decide +kernel, by decide +kernel⟩, by decide +kernel⟩
theorem kL_133 : LKv RL 133 yX8_needs cX8_needs 5 (some .int) 4 := ⟨mT 1871 (by decide +kernel), mT 1872 (by decide +kernel), mT 1873 (by decide +kernel), mT 13 (by decide +kernel), mT 1874 (by decide +kernel), ⟨by decide +kernel, by decide +kernel⟩, by decide +kernel⟩
theorem kL_134 : LKv RL 134 yX7_best cX7_best 7 (some .int) 2 := ⟨mT 1147 (by decide +kernel), mT 1148 (by decide +kernel), mT 1149 (by decide +kernel), mT 1 (by decide +kernel), mT 1150 (by decide +kernel), ⟨by decide +kernel, by decide +kernel⟩, by decide +kernel⟩
theorem kL_137 : LKv RL 137 yX8_best cX8_best 7 (some .int) 2 := ⟨mT 1882 (by decide +kernel), mT 1883 (by decide +kernel), mT 1884 (by decide +kernel), mT 13 (by decide +kernel), mT 1885 (by decide +kernel), ⟨by decide +kernel, by decide +kernel⟩, by decide +kernel⟩
theorem kL_138 : LKv RL 138 yX7_pinned cX7_pinned 6 (some .int) 2 := ⟨mT 1151 (by decide +kernel), mT 1152 (by decide +kernel), mT 1153 (by decide +kernel), mT 1 (by decide +kernel), mT 1154 (by decide +kernel), ⟨by decide +kernel, by decide +kernel⟩, by decide +kernel⟩
theorem kL_141 : LKv RL 141 yX8_pinned cX8_pinned 3 (some .int) 2 := ⟨mT 1886 (by decide +kernel), mT 1887 (by decide +kernel), mT 1888 (by decide +kernel), mT 13 (by decide +kernel), mT 1889 (by decide +kernel), ⟨by decide +kernel, by decide +kernel⟩, by decide +kernel⟩
theorem kL_142 : LKv RL 142 yX7_dirty cX7_dirty 7 (some .int) 1 := ⟨mT 1161 (by decide +kernel), mT 1162 (by decide +kernel), mT 1163 (by decide +kernel), mT 1 (by decide +kernel), mT 1164 (by decide +kernel), ⟨by decide +kernel, by decide +kernel⟩, by decide +kernel⟩
theorem kL_145 : LKv RL 145 yX8_dirty cX8_dirty 6 (some .int) 1 := ⟨mT 1843 (by decide +kernel), mT 1844 (by decide +kernel), mT 1845 (by decide +kernel), mT 13 (by decide +kernel), mT 1846 (by decide +kernel), ⟨by decide +kernel, by decide +kernel⟩, by decide +kernel⟩
theorem kL_146 : LKv RL 146 yX7_common cX7_common 5 (some .int) 2 := ⟨mT 1172 (by decide +kernel), mT 1173 (by decide +kernel), mT 1174 (by decide +kernel), mT 1 (by decide +kernel), mT 1175 (by decide +kernel), ⟨by decide +kernel, by decide +kernel⟩, by decide +kernel⟩
theorem kL_149 : LKv RL 149 yX8_common cX8_common 5 (some .int) 2 := ⟨mT 1803 (by decide +kernel), mT 1804 (by decide +kernel), mT 1805 (by decide +kernel), mT 13 (by decide +kernel), mT 1806 (by decide +kernel), ⟨by decide +kernel, by decide +kernel⟩, by decide +kernel⟩
theorem kL_150 : LKv RL 150 yX7_gaps cX7_gaps 7 (some .int) 2 := ⟨mT 1177 (by decide +kernel), mT 1178 (by decide +kernel), mT 1179 (by decide +kernel), mT 1 (by decide +kernel), mT 1180 (by decide +kernel), ⟨by decide +kernel, by decide +kernel⟩, by decide +kernel⟩
theorem kL_153 : LKv RL 153 yX8_gaps cX8_gaps 6 (some .int) 2 := ⟨mT 1811 (by decide +kernel), mT 1812 (by decide +kernel), mT 1813 (by decide +kernel), mT 13 (by decide +kernel), mT 1814 (by decide +kernel), ⟨by decide +kernel, by decide +kernel⟩, by decide +kernel⟩
theorem kL_154 : LKv RL 154 yX7_stop cX7_stop 5 (some .int) 3 := ⟨mT 1182 (by decide +kernel), mT 1183 (by decide +kernel), mT 1184 (by decide +kernel), mT 1 (by decide +kernel), mT 1185 (by decide +kernel), ⟨by decide +kernel, by decide +kernel⟩, by decide +kernel⟩
theorem kL_158 : LKv RL 158 yX8_stop cX8_stop 6 (some .int) 3 := ⟨mT 1787 (by decide +kernel), mT 1788 (by decide +kernel), mT 1789 (by decide +kernel), mT 13 (by decide +kernel), mT 1790 (by decide +kernel), ⟨by decide +kernel, by decide +kernel⟩, by decide +kernel⟩
theorem kL_159 : LKv RL 159 yX7_window cX7_window 5 (some .int) 3 := ⟨mT 1190 (by decide +kernel), mT 1191 (by decide +kernel), mT 1192 (by decide +kernel), mT 1 (by decide +kernel), mT 1193 (by decide +kernel), ⟨by decide +kernel, by decide +kernel⟩, by decide +kernel⟩
theorem kL_162 : LKv RL 162 yX8_window cX8_window 8 (some .int) 3 := ⟨mT 1898 (by decide +kernel), mT 1899 (by decide +kernel), mT 1900 (by decide +kernel), mT 13 (by decide +kernel), mT 1901 (by decide +kernel), ⟨by decide +kernel, by decide +kernel⟩, by decide +kernel⟩
theorem kL_163 : LKv RL 163 yX7_reach cX7_reach 2 (some .int) 1 := ⟨mT 1198 (by decide +kernel), mT 1199 (by decide +kernel), mT 1200 (by decide +kernel), mT 1 (by decide +kernel), mT 1201 (by decide +kernel), ⟨by decide +kernel, by decide +kernel⟩, by decide +kernel⟩
theorem kL_166 : LKv RL 166 yX8_reach cX8_reach 2 (some .int) 1 := ⟨mT 1902 (by decide +kernel), mT 1903 (by decide +kernel), mT 1904 (by decide +kernel), mT 13 (by decide +kernel), mT 1905 (by decide +kernel), ⟨by decide +kernel, by decide +kernel⟩, by decide +kernel⟩
theorem kL_167 : LKv RL 167 yX7_spare cX7_spare 6 (some .int) 0 := ⟨mT 1210 (by decide +kernel), mT 1211 (by decide +kernel), mT 1212 (by decide +kernel), mT 1 (by decide +kernel), mT 1213 (by decide +kernel), ⟨by decide +kernel, by decide +kernel⟩, by decide +kernel⟩
theorem kL_170 : LKv RL 170 yX8_spare cX8_spare 4 (some .int) 0 := ⟨mT 1894 (by decide +kernel), mT 1895 (by decide +kernel), mT 1896 (by decide +kernel), mT 13 (by decide +kernel), mT 1897 (by decide +kernel), ⟨by decide +kernel, by decide +kernel⟩, by decide +kernel⟩
theorem kL_171 : LKv RL 171 yX7_hurts cX7_hurts 7 (some .int) 2 := ⟨mT 1218 (by decide +kernel), mT 1219 (by decide +kernel), mT 1220 (by decide +kernel), mT 1 (by decide +kernel), mT 1221 (by decide +kernel), ⟨by decide +kernel, by decide +kernel⟩, by decide +kernel⟩
theorem kL_174 : LKv RL 174 yX8_hurts cX8_hurts 7 (some .int) 2 := ⟨mT 1918 (by decide +kernel), mT 1919 (by decide +kernel), mT 1920 (by decide +kernel), mT 13 (by decide +kernel), mT 1921 (by decide +kernel), ⟨by decide +kernel, by decide +kernel⟩, by decide +kernel⟩
theorem kL_175 : LKv RL 175 yX7_newest cX7_newest 4 (some .int) 1 := ⟨mT 1222 (by decide +kernel), mT 1223 (by decide +kernel), mT 1224 (by decide +kernel), mT 1 (by decide +kernel), mT 1225 (by decide +kernel), ⟨by decide +kernel, by decide +kernel⟩, by decide +kernel⟩
theorem kL_178 : LKv RL 178 yX8_newest cX8_newest 3 (some .int) 1 := ⟨mT 1914 (by decide +kernel), mT 1915 (by decide +kernel), mT 1916 (by decide +kernel), mT 13 (by decide +kernel), mT 1917 (by decide +kernel), ⟨by decide +kernel, by decide +kernel⟩, by decide +kernel⟩
theorem kL_179 : LKv RL 179 yX7_age cX7_age 4 (some .int) 1 := ⟨mT 1226 (by decide +kernel), mT 1227 (by decide +kernel), mT 1228 (by decide +kernel), mT 1 (by decide +kernel), mT 1229 (by decide +kernel), ⟨by decide +kernel, by decide +kernel⟩, by decide +kernel⟩
theorem kL_182 : LKv RL 182 yX8_age cX8_age 2 (some .int) 1 := ⟨mT 1847 (by decide +kernel), mT 1848 (by decide +kernel), mT 1849 (by decide +kernel), mT 13 (by decide +kernel), mT 1850 (by decide +kernel), ⟨by decide +kernel, by decide +kernel⟩, by decide +kernel⟩
theorem kL_183 : LKv RL 183 yX7_work cX7_work 4 (some .int) 3 := ⟨mT 1230 (by decide +kernel), mT 1231 (by decide +kernel), mT 1232 (by decide +kernel), mT 1 (by decide +kernel), mT 1233 (by decide +kernel), ⟨by decide +kernel, by decide +kernel⟩, by decide +kernel⟩
theorem kL_186 : LKv RL 186 yX8_work cX8_work 7 (some .int) 3 := ⟨mT 1878 (by decide +kernel), mT 1879 (by decide +kernel), mT 1880 (by decide +kernel), mT 13 (by decide +kernel), mT 1881 (by decide +kernel), ⟨by decide +kernel, by decide +kernel⟩, by decide +kernel⟩
theorem kL_187 : LKv RL 187 yX7_differ cX7_differ 7 (some .int) 4 := ⟨mT 1239 (by decide +kernel), mT 1240 (by decide +kernel), mT 1241 (by decide +kernel), mT 1 (by decide +kernel), mT 1242 (by decide +kernel), ⟨by decide +kernel, by decide +kernel⟩, by decide +kernel⟩
theorem kL_190 : LKv RL 190 yX8_differ cX8_differ 7 (some .int) 4 := ⟨mT 1807 (by decide +kernel), mT 1808 (by decide +kernel), mT 1809 (by decide +kernel), mT 13 (by decide +kernel), mT 1810 (by decide +kernel), ⟨by decide +kernel, by decide +kernel⟩, by decide +kernel⟩
theorem kL_191 : LKv RL 191 yX7_last cX7_last 4 (some .int) 3 := ⟨mT 1243 (by decide +kernel), mT 1244 (by decide +kernel), mT 1245 (by decide +kernel), mT 1 (by decide +kernel), mT 1246 (by decide +kernel), ⟨by decide +kernel, by decide +kernel⟩, by decide +kernel⟩
theorem kL_194 : LKv RL 194 yX8_last cX8_last 4 (some .int) 3 := ⟨mT 1779 (by decide +kernel), mT 1780 (by decide +kernel), mT 1781 (by decide +kernel), mT 13 (by decide +kernel), mT 1782 (by decide +kernel), ⟨by decide +kernel, by decide +kernel⟩, by decide +kernel⟩
theorem kL_195 : LKv RL 195 yX7_way cX7_way 5 (some .int) 2 := ⟨mT 1247 (by decide +kernel), mT 1248 (by decide +kernel), mT 1249 (by decide +kernel), mT 1 (by decide +kernel), mT 1250 (by decide +kernel), ⟨by decide +kernel, by decide +kernel⟩, by decide +kernel⟩
theorem kL_198 : LKv RL 198 yX8_way cX8_way 5 (some .int) 2 := ⟨mT 1775 (by decide +kernel), mT 1776 (by decide +kernel), mT 1777 (by decide +kernel), mT 13 (by decide +kernel), mT 1778 (by decide +kernel), ⟨by decide +kernel, by decide +kernel⟩, by decide +kernel⟩
theorem kL_199 : LKv RL 199 yX7_where cX7_where 6 (some .int) 2 := ⟨mT 1251 (by decide +kernel), mT 1252 (by decide +kernel), mT 1253 (by decide +kernel), mT 1 (by decide +kernel), mT 1254 (by decide +kernel), ⟨by decide +kernel, by decide +kernel⟩, by decide +kernel⟩
theorem kL_202 : LKv RL 202 yX8_where cX8_where 8 (some .int) 2 := ⟨mT 1795 (by decide +kernel), mT 1796 (by decide +kernel), mT 1797 (by decide +kernel), mT 13 (by decide +kernel), mT 1798 (by decide +kernel), ⟨by decide +kernel, by decide +kernel⟩, by decide +kernel⟩
theorem kL_203 : LKv RL 203 yX7_busiest cX7_busiest 7 (some .int) 2 := ⟨mT 1259 (by decide +kernel), mT 1260 (by decide +kernel), mT 1261 (by decide +kernel), mT 1 (by decide +kernel), mT 1262 (by decide +kernel), ⟨by decide +kernel, by decide +kernel⟩, by decide +kernel⟩
theorem kL_206 : LKv RL 206 yX8_busiest cX8_busiest 5 (some .int) 2 := ⟨mT 1799 (by decide +kernel), mT 1800 (by decide +kernel), mT 1801 (by decide +kernel), mT 13 (by decide +kernel), mT 1802 (by decide +kernel), ⟨by decide +kernel, by decide +kernel⟩, by decide +kernel⟩
theorem kL_207 : LKv RL 207 yX7_hold cX7_hold 2 (some .boolean) 1 := ⟨mT 1267 (by decide +kernel), mT 1268 (by decide +kernel), mT 1269 (by decide +kernel), mT 1 (by decide +kernel), mT 1270 (by decide +kernel), ⟨by decide +kernel, by decide +kernel⟩, by decide +kernel⟩
theorem kL_210 : LKv RL 210 yX8_hold cX8_hold 3 (some .boolean) 1 := ⟨mT 1922 (by decide +kernel), mT 1923 (by decide +kernel), mT 1924 (by decide +kernel), mT 13 (by decide +kernel), mT 1925 (by decide +kernel), ⟨by decide +kernel, by decide +kernel⟩, by decide +kernel⟩
theorem kL_211 : LKv RL 211 yX7_again cX7_again 2 (some .boolean) 1 := ⟨mT 1285 (by decide +kernel), mT 1286 (by decide +kernel), mT 1287 (by decide +kernel), mT 1 (by decide +kernel), mT 1288 (by decide +kernel), ⟨by decide +kernel, by decide +kernel⟩, by decide +kernel⟩
theorem kL_214 : LKv RL 214 yX8_again cX8_again 3 (some .boolean) 1 := ⟨mT 1926 (by decide +kernel), mT 1927 (by decide +kernel), mT 1928 (by decide +kernel), mT 13 (by decide +kernel), mT 1929 (by decide +kernel), ⟨by decide +kernel, by decide +kernel⟩, by decide +kernel⟩
theorem kL_215 : LKv RL 215 yX7_count cX7_count 2 (some .int) 1 := ⟨mT 1289 (by decide +kernel), mT 1290 (by decide +kernel), mT 1291 (by decide +kernel), mT 1 (by decide +kernel), mT 1292 (by decide +kernel), ⟨by decide +kernel, by decide +kernel⟩, by decide +kernel⟩
theorem kL_218 : LKv RL 218 yX8_count cX8_count 5 (some .int) 1 := ⟨mT 1930 (by decide +kernel), mT 1931 (by decide +kernel), mT 1932 (by decide +kernel), mT 13 (by decide +kernel), mT 1933 (by decide +kernel), ⟨by decide +kernel, by decide +kernel⟩, by decide +kernel⟩
noncomputable def fL_0 (F j : Nat) (xs : Nat → Int32) (K : Kt) (σ τ : St) (ex : Nat → Bool) (β : Nat → St) : Option Int32 :=
  cal2 (f_X7_feed F σ (xs (6 * j + 1)) (xs (6 * j + 2)) (xs (6 * j + 3)) (xs (6 * j + 4)) (xs (6 * j + 5))) (fun r1 σ1 => cal2 (f_X8_feed F τ (xs (6 * j + 1)) (xs (6 * j + 2)) (xs (6 * j + 3)) (xs (6 * j + 4)) (xs (6 * j + 5))) (fun r2 τ1 => if r1 = r2 then (K σ1 τ1 ex β) else (some 0)))
noncomputable def fL_1 (F j : Nat) (xs : Nat → Int32) (K : Kt) (σ τ : St) (ex : Nat → Bool) (β : Nat → St) : Option Int32 :=
  cal2 (f_X7_back F σ (xs (6 * j + 1))) (fun r1 σ1 => cal2 (f_X8_back F τ (xs (6 * j + 1))) (fun r2 τ1 => if r1 = r2 then (K σ1 τ1 ex β) else (some 0)))
noncomputable def fL_2 (F j : Nat) (xs : Nat → Int32) (K : Kt) (σ τ : St) (ex : Nat → Bool) (β : Nat → St) : Option Int32 :=
  cal2 (f_X7_read F σ) (fun r1 σ1 => cal2 (f_X8_read F τ) (fun r2 τ1 => if r1 = r2 then (K σ1 τ1 ex β) else (some 0)))
noncomputable def fL_3 (F j : Nat) (xs : Nat → Int32) (K : Kt) (σ τ : St) (ex : Nat → Bool) (β : Nat → St) : Option Int32 :=
  cal (f_X7_place F σ) (fun r1 => cal (f_X8_place F τ) (fun r2 => if r1 = r2 then (K σ τ ex β) else (some 0)))
noncomputable def fL_4 (F j : Nat) (xs : Nat → Int32) (K : Kt) (σ τ : St) (ex : Nat → Bool) (β : Nat → St) : Option Int32 :=
  cal2 (f_X7_write F σ (xs (6 * j + 1)) (xs (6 * j + 2))) (fun r1 σ1 => cal2 (f_X8_write F τ (xs (6 * j + 1)) (xs (6 * j + 2))) (fun r2 τ1 => if r1 = r2 then (K σ1 τ1 ex β) else (some 0)))
noncomputable def fL_5 (F j : Nat) (xs : Nat → Int32) (K : Kt) (σ τ : St) (ex : Nat → Bool) (β : Nat → St) : Option Int32 :=
  cal2 (f_X7_add F σ (xs (6 * j + 1)) (xs (6 * j + 2))) (fun r1 σ1 => cal2 (f_X8_add F τ (xs (6 * j + 1)) (xs (6 * j + 2))) (fun r2 τ1 => if r1 = r2 then (K σ1 τ1 ex β) else (some 0)))
noncomputable def fL_6 (F j : Nat) (xs : Nat → Int32) (K : Kt) (σ τ : St) (ex : Nat → Bool) (β : Nat → St) : Option Int32 :=
  cal2 (f_X7_mark F σ (xs (6 * j + 1))) (fun r1 σ1 => cal2 (f_X8_mark F τ (xs (6 * j + 1))) (fun r2 τ1 => if r1 = r2 then (K σ1 τ1 ex β) else (some 0)))
noncomputable def fL_7 (F j : Nat) (xs : Nat → Int32) (K : Kt) (σ τ : St) (ex : Nat → Bool) (β : Nat → St) : Option Int32 :=
  cal2 (f_X7_fill F σ) (fun r1 σ1 => cal2 (f_X8_fill F τ) (fun r2 τ1 => if r1 = r2 then (K σ1 τ1 ex β) else (some 0)))
noncomputable def fL_8 (F j : Nat) (xs : Nat → Int32) (K : Kt) (σ τ : St) (ex : Nat → Bool) (β : Nat → St) : Option Int32 :=
  cal2 (f_X7_copy F σ (xs (6 * j + 1))) (fun r1 σ1 => cal2 (f_X8_copy F τ (xs (6 * j + 1))) (fun r2 τ1 => if r1 = r2 then (K σ1 τ1 ex β) else (some 0)))
noncomputable def fL_9 (F j : Nat) (xs : Nat → Int32) (K : Kt) (σ τ : St) (ex : Nat → Bool) (β : Nat → St) : Option Int32 :=
  cal2 (f_X7_take F σ (xs (6 * j + 1)) (xs (6 * j + 2))) (fun r1 σ1 => cal2 (f_X8_take F τ (xs (6 * j + 1)) (xs (6 * j + 2))) (fun r2 τ1 => if r1 = r2 then (K σ1 τ1 ex β) else (some 0)))
noncomputable def fL_10 (F j : Nat) (xs : Nat → Int32) (K : Kt) (σ τ : St) (ex : Nat → Bool) (β : Nat → St) : Option Int32 :=
  cal2 (f_X7_close F σ (xs (6 * j + 1))) (fun r1 σ1 => cal2 (f_X8_close F τ (xs (6 * j + 1))) (fun r2 τ1 => if r1 = r2 then (K σ1 τ1 ex β) else (some 0)))
noncomputable def fL_11 (F j : Nat) (xs : Nat → Int32) (K : Kt) (σ τ : St) (ex : Nat → Bool) (β : Nat → St) : Option Int32 :=
  cal2 (f_X7_combine F σ (xs (6 * j + 1))) (fun r1 σ1 => cal2 (f_X8_combine F τ (xs (6 * j + 1))) (fun r2 τ1 => if r1 = r2 then (K σ1 τ1 ex β) else (some 0)))
noncomputable def fL_12 (F j : Nat) (xs : Nat → Int32) (K : Kt) (σ τ : St) (ex : Nat → Bool) (β : Nat → St) : Option Int32 :=
  cal2 (f_X7_drop F σ (xs (6 * j + 1))) (fun r1 σ1 => cal2 (f_X8_drop F τ (xs (6 * j + 1))) (fun r2 τ1 => if r1 = r2 then (K σ1 τ1 ex β) else (some 0)))
noncomputable def fL_13 (F j : Nat) (xs : Nat → Int32) (K : Kt) (σ τ : St) (ex : Nat → Bool) (β : Nat → St) : Option Int32 :=
  cal2 (f_X7_restore F σ (xs (6 * j + 1)) (xs (6 * j + 2)) (xs (6 * j + 3))) (fun r1 σ1 => cal2 (f_X8_restore F τ (xs (6 * j + 1)) (xs (6 * j + 2)) (xs (6 * j + 3))) (fun r2 τ1 => if r1 = r2 then (K σ1 τ1 ex β) else (some 0)))
noncomputable def fL_14 (F j : Nat) (xs : Nat → Int32) (K : Kt) (σ τ : St) (ex : Nat → Bool) (β : Nat → St) : Option Int32 :=
  cal2 (f_X7_lose F σ (xs (6 * j + 1)) (xs (6 * j + 2))) (fun r1 σ1 => cal2 (f_X8_lose F τ (xs (6 * j + 1)) (xs (6 * j + 2))) (fun r2 τ1 => if r1 = r2 then (K σ1 τ1 ex β) else (some 0)))
noncomputable def fL_15 (F j : Nat) (xs : Nat → Int32) (K : Kt) (σ τ : St) (ex : Nat → Bool) (β : Nat → St) : Option Int32 :=
  cal2 (f_X7_twice F σ (xs (6 * j + 1)) (xs (6 * j + 2)) (bz (xs (6 * j + 3)))) (fun r1 σ1 => cal2 (f_X8_twice F τ (xs (6 * j + 1)) (xs (6 * j + 2)) (bz (xs (6 * j + 3)))) (fun r2 τ1 => if r1 = r2 then (K σ1 τ1 ex β) else (some 0)))
noncomputable def fL_16 (F j : Nat) (xs : Nat → Int32) (K : Kt) (σ τ : St) (ex : Nat → Bool) (β : Nat → St) : Option Int32 :=
  cal (f_X7_page F σ (xs (6 * j + 1)) (xs (6 * j + 2)) (xs (6 * j + 3))) (fun r1 => cal (f_X8_page F τ (xs (6 * j + 1)) (xs (6 * j + 2)) (xs (6 * j + 3))) (fun r2 => if r1 = r2 then (K σ τ ex β) else (some 0)))
noncomputable def fL_17 (F j : Nat) (xs : Nat → Int32) (K : Kt) (σ τ : St) (ex : Nat → Bool) (β : Nat → St) : Option Int32 :=
  cal (f_X7_record F σ (xs (6 * j + 1)) (xs (6 * j + 2)) (xs (6 * j + 3))) (fun r1 => cal (f_X8_record F τ (xs (6 * j + 1)) (xs (6 * j + 2)) (xs (6 * j + 3))) (fun r2 => if r1 = r2 then (K σ τ ex β) else (some 0)))
noncomputable def fL_18 (F j : Nat) (xs : Nat → Int32) (K : Kt) (σ τ : St) (ex : Nat → Bool) (β : Nat → St) : Option Int32 :=
  cal (f_X7_value F σ (xs (6 * j + 1)) (xs (6 * j + 2))) (fun r1 => cal (f_X8_value F τ (xs (6 * j + 1)) (xs (6 * j + 2))) (fun r2 => if r1 = r2 then (K σ τ ex β) else (some 0)))
noncomputable def fL_19 (F j : Nat) (xs : Nat → Int32) (K : Kt) (σ τ : St) (ex : Nat → Bool) (β : Nat → St) : Option Int32 :=
  cal (f_X7_line F σ (xs (6 * j + 1)) (xs (6 * j + 2))) (fun r1 => cal (f_X8_line F τ (xs (6 * j + 1)) (xs (6 * j + 2))) (fun r2 => if r1 = r2 then (K σ τ ex β) else (some 0)))
noncomputable def fL_20 (F j : Nat) (xs : Nat → Int32) (K : Kt) (σ τ : St) (ex : Nat → Bool) (β : Nat → St) : Option Int32 :=
  cal (f_X7_piece F σ (xs (6 * j + 1)) (xs (6 * j + 2))) (fun r1 => cal (f_X8_piece F τ (xs (6 * j + 1)) (xs (6 * j + 2))) (fun r2 => if r1 = r2 then (K σ τ ex β) else (some 0)))
noncomputable def fL_21 (F j : Nat) (xs : Nat → Int32) (K : Kt) (σ τ : St) (ex : Nat → Bool) (β : Nat → St) : Option Int32 :=
  cal (f_X7_made F σ (xs (6 * j + 1)) (xs (6 * j + 2))) (fun r1 => cal (f_X8_made F τ (xs (6 * j + 1)) (xs (6 * j + 2))) (fun r2 => if r1 = r2 then (K σ τ ex β) else (some 0)))
noncomputable def fL_22 (F j : Nat) (xs : Nat → Int32) (K : Kt) (σ τ : St) (ex : Nat → Bool) (β : Nat → St) : Option Int32 :=
  cal (f_X7_source F σ (xs (6 * j + 1)) (xs (6 * j + 2))) (fun r1 => cal (f_X8_source F τ (xs (6 * j + 1)) (xs (6 * j + 2))) (fun r2 => if r1 = r2 then (K σ τ ex β) else (some 0)))
noncomputable def fL_23 (F j : Nat) (xs : Nat → Int32) (K : Kt) (σ τ : St) (ex : Nat → Bool) (β : Nat → St) : Option Int32 :=
  cal (f_X7_taken F σ (xs (6 * j + 1)) (xs (6 * j + 2))) (fun r1 => cal (f_X8_taken F τ (xs (6 * j + 1)) (xs (6 * j + 2))) (fun r2 => if r1 = r2 then (K σ τ ex β) else (some 0)))
noncomputable def fL_24 (F j : Nat) (xs : Nat → Int32) (K : Kt) (σ τ : St) (ex : Nat → Bool) (β : Nat → St) : Option Int32 :=
  cal (f_X7_held F σ (xs (6 * j + 1)) (xs (6 * j + 2))) (fun r1 => cal (f_X8_held F τ (xs (6 * j + 1)) (xs (6 * j + 2))) (fun r2 => if r1 = r2 then (K σ τ ex β) else (some 0)))
noncomputable def fL_25 (F j : Nat) (xs : Nat → Int32) (K : Kt) (σ τ : St) (ex : Nat → Bool) (β : Nat → St) : Option Int32 :=
  cal2 (f_X7_would F σ (xs (6 * j + 1)) (xs (6 * j + 2)) (xs (6 * j + 3))) (fun r1 σ1 => cal2 (f_X8_would F τ (xs (6 * j + 1)) (xs (6 * j + 2)) (xs (6 * j + 3))) (fun r2 τ1 => if r1 = r2 then (K σ1 τ1 ex β) else (some 0)))
noncomputable def fL_26 (F j : Nat) (xs : Nat → Int32) (K : Kt) (σ τ : St) (ex : Nat → Bool) (β : Nat → St) : Option Int32 :=
  cal2 (f_X7_named F σ (xs (6 * j + 1)) (xs (6 * j + 2)) (xs (6 * j + 3)) (xs (6 * j + 4))) (fun r1 σ1 => cal2 (f_X8_named F τ (xs (6 * j + 1)) (xs (6 * j + 2)) (xs (6 * j + 3)) (xs (6 * j + 4))) (fun r2 τ1 => if r1 = r2 then (K σ1 τ1 ex β) else (some 0)))
noncomputable def fL_27 (F j : Nat) (xs : Nat → Int32) (K : Kt) (σ τ : St) (ex : Nat → Bool) (β : Nat → St) : Option Int32 :=
  cal2 (f_X7_needs F σ (xs (6 * j + 1)) (xs (6 * j + 2)) (xs (6 * j + 3)) (xs (6 * j + 4))) (fun r1 σ1 => cal2 (f_X8_needs F τ (xs (6 * j + 1)) (xs (6 * j + 2)) (xs (6 * j + 3)) (xs (6 * j + 4))) (fun r2 τ1 => if r1 = r2 then (K σ1 τ1 ex β) else (some 0)))
noncomputable def fL_28 (F j : Nat) (xs : Nat → Int32) (K : Kt) (σ τ : St) (ex : Nat → Bool) (β : Nat → St) : Option Int32 :=
  cal2 (f_X7_best F σ (xs (6 * j + 1)) (xs (6 * j + 2))) (fun r1 σ1 => cal2 (f_X8_best F τ (xs (6 * j + 1)) (xs (6 * j + 2))) (fun r2 τ1 => if r1 = r2 then (K σ1 τ1 ex β) else (some 0)))
noncomputable def fL_29 (F j : Nat) (xs : Nat → Int32) (K : Kt) (σ τ : St) (ex : Nat → Bool) (β : Nat → St) : Option Int32 :=
  cal2 (f_X7_pinned F σ (xs (6 * j + 1)) (xs (6 * j + 2))) (fun r1 σ1 => cal2 (f_X8_pinned F τ (xs (6 * j + 1)) (xs (6 * j + 2))) (fun r2 τ1 => if r1 = r2 then (K σ1 τ1 ex β) else (some 0)))
noncomputable def fL_30 (F j : Nat) (xs : Nat → Int32) (K : Kt) (σ τ : St) (ex : Nat → Bool) (β : Nat → St) : Option Int32 :=
  cal (f_X7_dirty F σ (xs (6 * j + 1))) (fun r1 => cal (f_X8_dirty F τ (xs (6 * j + 1))) (fun r2 => if r1 = r2 then (K σ τ ex β) else (some 0)))
noncomputable def fL_31 (F j : Nat) (xs : Nat → Int32) (K : Kt) (σ τ : St) (ex : Nat → Bool) (β : Nat → St) : Option Int32 :=
  cal (f_X7_common F σ (xs (6 * j + 1)) (xs (6 * j + 2))) (fun r1 => cal (f_X8_common F τ (xs (6 * j + 1)) (xs (6 * j + 2))) (fun r2 => if r1 = r2 then (K σ τ ex β) else (some 0)))
noncomputable def fL_32 (F j : Nat) (xs : Nat → Int32) (K : Kt) (σ τ : St) (ex : Nat → Bool) (β : Nat → St) : Option Int32 :=
  cal (f_X7_gaps F σ (xs (6 * j + 1)) (xs (6 * j + 2))) (fun r1 => cal (f_X8_gaps F τ (xs (6 * j + 1)) (xs (6 * j + 2))) (fun r2 => if r1 = r2 then (K σ τ ex β) else (some 0)))
noncomputable def fL_33 (F j : Nat) (xs : Nat → Int32) (K : Kt) (σ τ : St) (ex : Nat → Bool) (β : Nat → St) : Option Int32 :=
  cal (f_X7_stop F σ (xs (6 * j + 1)) (xs (6 * j + 2)) (bz (xs (6 * j + 3)))) (fun r1 => cal (f_X8_stop F τ (xs (6 * j + 1)) (xs (6 * j + 2)) (bz (xs (6 * j + 3)))) (fun r2 => if r1 = r2 then (K σ τ ex β) else (some 0)))
noncomputable def fL_34 (F j : Nat) (xs : Nat → Int32) (K : Kt) (σ τ : St) (ex : Nat → Bool) (β : Nat → St) : Option Int32 :=
  cal2 (f_X7_window F σ (xs (6 * j + 1)) (xs (6 * j + 2)) (xs (6 * j + 3))) (fun r1 σ1 => cal2 (f_X8_window F τ (xs (6 * j + 1)) (xs (6 * j + 2)) (xs (6 * j + 3))) (fun r2 τ1 => if r1 = r2 then (K σ1 τ1 ex β) else (some 0)))
noncomputable def fL_35 (F j : Nat) (xs : Nat → Int32) (K : Kt) (σ τ : St) (ex : Nat → Bool) (β : Nat → St) : Option Int32 :=
  cal2 (f_X7_reach F σ (xs (6 * j + 1))) (fun r1 σ1 => cal2 (f_X8_reach F τ (xs (6 * j + 1))) (fun r2 τ1 => if r1 = r2 then (K σ1 τ1 ex β) else (some 0)))
noncomputable def fL_36 (F j : Nat) (xs : Nat → Int32) (K : Kt) (σ τ : St) (ex : Nat → Bool) (β : Nat → St) : Option Int32 :=
  cal2 (f_X7_spare F σ) (fun r1 σ1 => cal2 (f_X8_spare F τ) (fun r2 τ1 => if r1 = r2 then (K σ1 τ1 ex β) else (some 0)))
noncomputable def fL_37 (F j : Nat) (xs : Nat → Int32) (K : Kt) (σ τ : St) (ex : Nat → Bool) (β : Nat → St) : Option Int32 :=
  cal2 (f_X7_hurts F σ (xs (6 * j + 1)) (xs (6 * j + 2))) (fun r1 σ1 => cal2 (f_X8_hurts F τ (xs (6 * j + 1)) (xs (6 * j + 2))) (fun r2 τ1 => if r1 = r2 then (K σ1 τ1 ex β) else (some 0)))
noncomputable def fL_38 (F j : Nat) (xs : Nat → Int32) (K : Kt) (σ τ : St) (ex : Nat → Bool) (β : Nat → St) : Option Int32 :=
  cal2 (f_X7_newest F σ (xs (6 * j + 1))) (fun r1 σ1 => cal2 (f_X8_newest F τ (xs (6 * j + 1))) (fun r2 τ1 => if r1 = r2 then (K σ1 τ1 ex β) else (some 0)))
noncomputable def fL_39 (F j : Nat) (xs : Nat → Int32) (K : Kt) (σ τ : St) (ex : Nat → Bool) (β : Nat → St) : Option Int32 :=
  cal (f_X7_age F σ (xs (6 * j + 1))) (fun r1 => cal (f_X8_age F τ (xs (6 * j + 1))) (fun r2 => if r1 = r2 then (K σ τ ex β) else (some 0)))
noncomputable def fL_40 (F j : Nat) (xs : Nat → Int32) (K : Kt) (σ τ : St) (ex : Nat → Bool) (β : Nat → St) : Option Int32 :=
  cal2 (f_X7_work F σ (xs (6 * j + 1)) (xs (6 * j + 2)) (xs (6 * j + 3))) (fun r1 σ1 => cal2 (f_X8_work F τ (xs (6 * j + 1)) (xs (6 * j + 2)) (xs (6 * j + 3))) (fun r2 τ1 => if r1 = r2 then (K σ1 τ1 ex β) else (some 0)))
noncomputable def fL_41 (F j : Nat) (xs : Nat → Int32) (K : Kt) (σ τ : St) (ex : Nat → Bool) (β : Nat → St) : Option Int32 :=
  cal (f_X7_differ F σ (xs (6 * j + 1)) (xs (6 * j + 2)) (xs (6 * j + 3)) (xs (6 * j + 4))) (fun r1 => cal (f_X8_differ F τ (xs (6 * j + 1)) (xs (6 * j + 2)) (xs (6 * j + 3)) (xs (6 * j + 4))) (fun r2 => if r1 = r2 then (K σ τ ex β) else (some 0)))
noncomputable def fL_42 (F j : Nat) (xs : Nat → Int32) (K : Kt) (σ τ : St) (ex : Nat → Bool) (β : Nat → St) : Option Int32 :=
  cal (f_X7_last F σ (xs (6 * j + 1)) (xs (6 * j + 2)) (xs (6 * j + 3))) (fun r1 => cal (f_X8_last F τ (xs (6 * j + 1)) (xs (6 * j + 2)) (xs (6 * j + 3))) (fun r2 => if r1 = r2 then (K σ τ ex β) else (some 0)))
noncomputable def fL_43 (F j : Nat) (xs : Nat → Int32) (K : Kt) (σ τ : St) (ex : Nat → Bool) (β : Nat → St) : Option Int32 :=
  cal (f_X7_way F σ (xs (6 * j + 1)) (xs (6 * j + 2))) (fun r1 => cal (f_X8_way F τ (xs (6 * j + 1)) (xs (6 * j + 2))) (fun r2 => if r1 = r2 then (K σ τ ex β) else (some 0)))
noncomputable def fL_44 (F j : Nat) (xs : Nat → Int32) (K : Kt) (σ τ : St) (ex : Nat → Bool) (β : Nat → St) : Option Int32 :=
  cal (f_X7_where F σ (xs (6 * j + 1)) (xs (6 * j + 2))) (fun r1 => cal (f_X8_where F τ (xs (6 * j + 1)) (xs (6 * j + 2))) (fun r2 => if r1 = r2 then (K σ τ ex β) else (some 0)))
noncomputable def fL_45 (F j : Nat) (xs : Nat → Int32) (K : Kt) (σ τ : St) (ex : Nat → Bool) (β : Nat → St) : Option Int32 :=
  cal (f_X7_busiest F σ (xs (6 * j + 1)) (xs (6 * j + 2))) (fun r1 => cal2 (f_X8_busiest F τ (xs (6 * j + 1)) (xs (6 * j + 2))) (fun r2 τ1 => if r1 = r2 then (K σ τ1 ex β) else (some 0)))
noncomputable def fL_46 (F j : Nat) (xs : Nat → Int32) (K : Kt) (σ τ : St) (ex : Nat → Bool) (β : Nat → St) : Option Int32 :=
  if fitBb σ = true then (cal2 (f_X8_hold F τ (xs (6 * j + 1))) (fun r2 τ1 => if (if hok (xs (6 * j + 1)) = true then (1 : Int32) else 0) = r2 then (K (hS σ (xs (6 * j + 1))) τ1 (hX ex (xs (6 * j + 1))) (hB β σ (xs (6 * j + 1)))) else (some 0))) else none
noncomputable def fL_47 (F j : Nat) (xs : Nat → Int32) (K : Kt) (σ τ : St) (ex : Nat → Bool) (β : Nat → St) : Option Int32 :=
  if (!(aok σ ex (xs (6 * j + 1))) || fitBb (β ((xs (6 * j + 1))).toNatClampNeg)) = true then (cal2 (f_X8_again F τ (xs (6 * j + 1))) (fun r2 τ1 => if (if aok σ ex (xs (6 * j + 1)) = true then (1 : Int32) else 0) = r2 then (K (aS σ ex β (xs (6 * j + 1))) τ1 ex β) else (some 0))) else none
noncomputable def fL_48 (F j : Nat) (xs : Nat → Int32) (K : Kt) (σ τ : St) (ex : Nat → Bool) (β : Nat → St) : Option Int32 :=
  cal (f_X7_count F σ (xs (6 * j + 1))) (fun r1 => cal (f_X8_count F τ (xs (6 * j + 1))) (fun r2 => if r1 = r2 then (K σ τ ex β) else (some 0)))
set_option maxRecDepth 100000 in
set_option maxHeartbeats 4000000 in
theorem lc_0 {p : Program} {l : Launch} {e : Env} {s : State} {m : MethodId} {below : List Frame} {meth : Method} {c : Code} {g : Gp} {b L j F : Nat} {xs : Nat → Int32} {K : Kt} {σ τ : St} {ex : Nat → Bool} {β : Nat → St} {H : Heap} {locs : List Loc} {ls : Array Slot} (CL : LC g p s m b L xs meth c) (hL : L ≤ 3072) (hj : 6 * j + 6 ≤ L) (h : fL_0 F j xs K σ τ ex β = some 1)
    (hK : ∀ (σ τ : St) (ex : Nat → Bool) (β : Nat → St), K σ τ ex β = some 1 → ∀ (g : Gp) (H : Heap) (locs : List Loc) (ls : Array Slot), LC g p s m b L xs meth c → Dy g (wD g σ ++ (slW g ex β ++ wM g τ)) s H locs → lv_has ls 4 [(0, .ref b), (1, .ref (ga g 0)), (2, .ref (ga g 40)), (3, .int (nI (6 * j)))] → W p l e room_1 s m #[Value.ref b] below meth c H locs (100 + 17 * (j + 1)) (50000 + 3085 * (j + 1)) (lw_Z below #[Value.ref b] s) (F0 m 1863 ls []))
    (hd : Dy g (wD g σ ++ (slW g ex β ++ wM g τ)) s H locs) (hl : lv_has ls 4 [(0, .ref b), (1, .ref (ga g 0)), (2, .ref (ga g 40)), (3, .int (nI (6 * j)))]) : W p l e room_1 s m #[Value.ref b] below meth c H locs (100 + 17 * j) (50000 + 3085 * j) (lw_Z below #[Value.ref b] s) (F0 m 244 ls []) := by
  have C := CL.1
  have hx := C.1
  have hb := C.2.1
  have hE := C.2.2.2.2.2.2.2.2
  have hcs : 100 + 17 * j ≤ room_1.cells ∧ 50000 + 3085 * j ≤ room_1.slots := ⟨by show 100 + 17 * j ≤ 600000; omega, by show 50000 + 3085 * j ≤ 7302250; omega⟩
  rw [fL_0] at h
  refine lv_aload_n hx hb dL_law_244 rfl (lv_at hl 1 rfl) ?_
  refine lv_aload_n hx hb dL_law_245 rfl (lv_at hl 0 rfl) ?_
  refine lv_iload_n hx hb dL_law_246 rfl (lv_at hl 3 rfl) ?_
  refine lv_iconst (v := nI 1) hx hb dL_law_247 (by decide) ?_
  refine rScr (q := 1) CL hd hL hj (by decide) dL_law_248 dL_law_249 ?_
  refine lv_aload_n hx hb dL_law_250 rfl (lv_at hl 0 rfl) ?_
  refine lv_iload_n hx hb dL_law_251 rfl (lv_at hl 3 rfl) ?_
  refine lv_iconst (v := nI 2) hx hb dL_law_252 (by decide) ?_
  refine rScr (q := 2) CL hd hL hj (by decide) dL_law_253 dL_law_254 ?_
  refine lv_aload_n hx hb dL_law_255 rfl (lv_at hl 0 rfl) ?_
  refine lv_iload_n hx hb dL_law_256 rfl (lv_at hl 3 rfl) ?_
  refine lv_iconst (v := nI 3) hx hb dL_law_257 (by decide) ?_
  refine rScr (q := 3) CL hd hL hj (by decide) dL_law_258 dL_law_259 ?_
  refine lv_aload_n hx hb dL_law_260 rfl (lv_at hl 0 rfl) ?_
  refine lv_iload_n hx hb dL_law_261 rfl (lv_at hl 3 rfl) ?_
  refine lv_iconst (v := nI 4) hx hb dL_law_262 (by decide) ?_
  refine rScr (q := 4) CL hd hL hj (by decide) dL_law_263 dL_law_264 ?_
  refine lv_aload_n hx hb dL_law_265 rfl (lv_at hl 0 rfl) ?_
  refine lv_iload_n hx hb dL_law_266 rfl (lv_at hl 3 rfl) ?_
  refine lv_iconst (v := nI 5) hx hb dL_law_267 (by decide) ?_
  refine rScr (q := 5) CL hd hL hj (by decide) dL_law_268 dL_law_269 ?_
  obtain ⟨r1, σ1, er1, h⟩ := cal2_e h
  refine rCallI C hd (c_X7_feed hE er1) kL_13 0 rfl rfl rfl rfl hl.1 rfl (Nat.le_of_ble_eq_true rfl) ⟨(Nat.le_of_ble_eq_true rfl), (Nat.le_of_ble_eq_true rfl)⟩ hcs dL_law_270 (fun H locs hd => ?_)
  refine lv_aload_n hx hb dL_law_273 rfl (lv_at hl 2 rfl) ?_
  refine lv_aload_n hx hb dL_law_274 rfl (lv_at hl 0 rfl) ?_
  refine lv_iload_n hx hb dL_law_275 rfl (lv_at hl 3 rfl) ?_
  refine lv_iconst (v := nI 1) hx hb dL_law_276 (by decide) ?_
  refine rScr (q := 1) CL hd hL hj (by decide) dL_law_277 dL_law_278 ?_
  refine lv_aload_n hx hb dL_law_279 rfl (lv_at hl 0 rfl) ?_
  refine lv_iload_n hx hb dL_law_280 rfl (lv_at hl 3 rfl) ?_
  refine lv_iconst (v := nI 2) hx hb dL_law_281 (by decide) ?_
  refine rScr (q := 2) CL hd hL hj (by decide) dL_law_282 dL_law_283 ?_
  refine lv_aload_n hx hb dL_law_284 rfl (lv_at hl 0 rfl) ?_
  refine lv_iload_n hx hb dL_law_285 rfl (lv_at hl 3 rfl) ?_
  refine lv_iconst (v := nI 3) hx hb dL_law_286 (by decide) ?_
  refine rScr (q := 3) CL hd hL hj (by decide) dL_law_287 dL_law_288 ?_
  refine lv_aload_n hx hb dL_law_289 rfl (lv_at hl 0 rfl) ?_
  refine lv_iload_n hx hb dL_law_290 rfl (lv_at hl 3 rfl) ?_
  refine lv_iconst (v := nI 4) hx hb dL_law_291 (by decide) ?_
  refine rScr (q := 4) CL hd hL hj (by decide) dL_law_292 dL_law_293 ?_
  refine lv_aload_n hx hb dL_law_294 rfl (lv_at hl 0 rfl) ?_
  refine lv_iload_n hx hb dL_law_295 rfl (lv_at hl 3 rfl) ?_
  refine lv_iconst (v := nI 5) hx hb dL_law_296 (by decide) ?_
  refine rScr (q := 5) CL hd hL hj (by decide) dL_law_297 dL_law_298 ?_
  have hd : Dy g (wM g τ ++ (wD g σ1 ++ slW g ex β)) s _ _ := Dy.perm hd wl_perm
  obtain ⟨r2, τ1, er2, h⟩ := cal2_e h
  refine rCallI C hd (c_X8_feed hE er2) kL_17 0 rfl rfl rfl rfl hl.1 rfl (Nat.le_of_ble_eq_true rfl) ⟨(Nat.le_of_ble_eq_true rfl), (Nat.le_of_ble_eq_true rfl)⟩ hcs dL_law_299 (fun H locs hd => ?_)
  have hd : Dy g (wD g σ1 ++ (slW g ex β ++ wM g τ1)) s _ _ := Dy.perm hd wl_perm.symm
  refine lv_icmp_eq (tgt := 1863) hx hb dL_law_302 (by decide) (fun c9 => ?_) (fun c9 => ?_)
  · replace h := iteT c9 h
    refine W.widen (k := 100 + 17 * (j + 1)) (n := 50000 + 3085 * (j + 1)) (by omega) (by omega) ?_
    exact hK _ _ _ _ h g _ _ _ CL hd hl
  · replace h := iteF c9 h
    exact absurd (Option.some.inj h) (by decide)

set_option maxRecDepth 100000 in
set_option maxHeartbeats 4000000 in
theorem lc_1 {p : Program} {l : Launch} {e : Env} {s : State} {m : MethodId} {below : List Frame} {meth : Method} {c : Code} {g : Gp} {b L j F : Nat} {xs : Nat → Int32} {K : Kt} {σ τ : St} {ex : Nat → Bool} {β : Nat → St} {H : Heap} {locs : List Loc} {ls : Array Slot} (CL : LC g p s m b L xs meth c) (hL : L ≤ 3072) (hj : 6 * j + 6 ≤ L) (h : fL_1 F j xs K σ τ ex β = some 1)
    (hK : ∀ (σ τ : St) (ex : Nat → Bool) (β : Nat → St), K σ τ ex β = some 1 → ∀ (g : Gp) (H : Heap) (locs : List Loc) (ls : Array Slot), LC g p s m b L xs meth c → Dy g (wD g σ ++ (slW g ex β ++ wM g τ)) s H locs → lv_has ls 4 [(0, .ref b), (1, .ref (ga g 0)), (2, .ref (ga g 40)), (3, .int (nI (6 * j)))] → W p l e room_1 s m #[Value.ref b] below meth c H locs (100 + 17 * (j + 1)) (50000 + 3085 * (j + 1)) (lw_Z below #[Value.ref b] s) (F0 m 1863 ls []))
    (hd : Dy g (wD g σ ++ (slW g ex β ++ wM g τ)) s H locs) (hl : lv_has ls 4 [(0, .ref b), (1, .ref (ga g 0)), (2, .ref (ga g 40)), (3, .int (nI (6 * j)))]) : W p l e room_1 s m #[Value.ref b] below meth c H locs (100 + 17 * j) (50000 + 3085 * j) (lw_Z below #[Value.ref b] s) (F0 m 307 ls []) := by
  have C := CL.1
  have hx := C.1
  have hb := C.2.1
  have hE := C.2.2.2.2.2.2.2.2
  have hcs : 100 + 17 * j ≤ room_1.cells ∧ 50000 + 3085 * j ≤ room_1.slots := ⟨by show 100 + 17 * j ≤ 600000; omega, by show 50000 + 3085 * j ≤ 7302250; omega⟩
  rw [fL_1] at h
  refine lv_aload_n hx hb dL_law_307 rfl (lv_at hl 1 rfl) ?_
  refine lv_aload_n hx hb dL_law_308 rfl (lv_at hl 0 rfl) ?_
  refine lv_iload_n hx hb dL_law_309 rfl (lv_at hl 3 rfl) ?_
  refine lv_iconst (v := nI 1) hx hb dL_law_310 (by decide) ?_
  refine rScr (q := 1) CL hd hL hj (by decide) dL_law_311 dL_law_312 ?_
  obtain ⟨r1, σ1, er1, h⟩ := cal2_e h
  refine rCallI C hd (c_X7_back hE er1) kL_18 0 rfl rfl rfl rfl hl.1 rfl (Nat.le_of_ble_eq_true rfl) ⟨(Nat.le_of_ble_eq_true rfl), (Nat.le_of_ble_eq_true rfl)⟩ hcs dL_law_313 (fun H locs hd => ?_)
  refine lv_aload_n hx hb dL_law_316 rfl (lv_at hl 2 rfl) ?_
  refine lv_aload_n hx hb dL_law_317 rfl (lv_at hl 0 rfl) ?_
  refine lv_iload_n hx hb dL_law_318 rfl (lv_at hl 3 rfl) ?_
  refine lv_iconst (v := nI 1) hx hb dL_law_319 (by decide) ?_
  refine rScr (q := 1) CL hd hL hj (by decide) dL_law_320 dL_law_321 ?_
  have hd : Dy g (wM g τ ++ (wD g σ1 ++ slW g ex β)) s _ _ := Dy.perm hd wl_perm
  obtain ⟨r2, τ1, er2, h⟩ := cal2_e h
  refine rCallI C hd (c_X8_back hE er2) kL_22 0 rfl rfl rfl rfl hl.1 rfl (Nat.le_of_ble_eq_true rfl) ⟨(Nat.le_of_ble_eq_true rfl), (Nat.le_of_ble_eq_true rfl)⟩ hcs dL_law_322 (fun H locs hd => ?_)
  have hd : Dy g (wD g σ1 ++ (slW g ex β ++ wM g τ1)) s _ _ := Dy.perm hd wl_perm.symm
  refine lv_icmp_eq (tgt := 1863) hx hb dL_law_325 (by decide) (fun c9 => ?_) (fun c9 => ?_)
  · replace h := iteT c9 h
    refine W.widen (k := 100 + 17 * (j + 1)) (n := 50000 + 3085 * (j + 1)) (by omega) (by omega) ?_
    exact hK _ _ _ _ h g _ _ _ CL hd hl
  · replace h := iteF c9 h
    exact absurd (Option.some.inj h) (by decide)

set_option maxRecDepth 100000 in
set_option maxHeartbeats 4000000 in
theorem lc_2 {p : Program} {l : Launch} {e : Env} {s : State} {m : MethodId} {below : List Frame} {meth : Method} {c : Code} {g : Gp} {b L j F : Nat} {xs : Nat → Int32} {K : Kt} {σ τ : St} {ex : Nat → Bool} {β : Nat → St} {H : Heap} {locs : List Loc} {ls : Array Slot} (CL : LC g p s m b L xs meth c) (hL : L ≤ 3072) (hj : 6 * j + 6 ≤ L) (h : fL_2 F j xs K σ τ ex β = some 1)
    (hK : ∀ (σ τ : St) (ex : Nat → Bool) (β : Nat → St), K σ τ ex β = some 1 → ∀ (g : Gp) (H : Heap) (locs : List Loc) (ls : Array Slot), LC g p s m b L xs meth c → Dy g (wD g σ ++ (slW g ex β ++ wM g τ)) s H locs → lv_has ls 4 [(0, .ref b), (1, .ref (ga g 0)), (2, .ref (ga g 40)), (3, .int (nI (6 * j)))] → W p l e room_1 s m #[Value.ref b] below meth c H locs (100 + 17 * (j + 1)) (50000 + 3085 * (j + 1)) (lw_Z below #[Value.ref b] s) (F0 m 1863 ls []))
    (hd : Dy g (wD g σ ++ (slW g ex β ++ wM g τ)) s H locs) (hl : lv_has ls 4 [(0, .ref b), (1, .ref (ga g 0)), (2, .ref (ga g 40)), (3, .int (nI (6 * j)))]) : W p l e room_1 s m #[Value.ref b] below meth c H locs (100 + 17 * j) (50000 + 3085 * j) (lw_Z below #[Value.ref b] s) (F0 m 330 ls []) := by
  have C := CL.1
  have hx := C.1
  have hb := C.2.1
  have hE := C.2.2.2.2.2.2.2.2
  have hcs : 100 + 17 * j ≤ room_1.cells ∧ 50000 + 3085 * j ≤ room_1.slots := ⟨by show 100 + 17 * j ≤ 600000; omega, by show 50000 + 3085 * j ≤ 7302250; omega⟩
  rw [fL_2] at h
  refine lv_aload_n hx hb dL_law_330 rfl (lv_at hl 1 rfl) ?_
  obtain ⟨r1, σ1, er1, h⟩ := cal2_e h
  refine rCallI C hd (c_X7_read hE er1) kL_23 0 rfl rfl rfl rfl hl.1 rfl (Nat.le_of_ble_eq_true rfl) ⟨(Nat.le_of_ble_eq_true rfl), (Nat.le_of_ble_eq_true rfl)⟩ hcs dL_law_331 (fun H locs hd => ?_)
  refine lv_aload_n hx hb dL_law_334 rfl (lv_at hl 2 rfl) ?_
  have hd : Dy g (wM g τ ++ (wD g σ1 ++ slW g ex β)) s _ _ := Dy.perm hd wl_perm
  obtain ⟨r2, τ1, er2, h⟩ := cal2_e h
  refine rCallI C hd (c_X8_read hE er2) kL_27 0 rfl rfl rfl rfl hl.1 rfl (Nat.le_of_ble_eq_true rfl) ⟨(Nat.le_of_ble_eq_true rfl), (Nat.le_of_ble_eq_true rfl)⟩ hcs dL_law_335 (fun H locs hd => ?_)
  have hd : Dy g (wD g σ1 ++ (slW g ex β ++ wM g τ1)) s _ _ := Dy.perm hd wl_perm.symm
  refine lv_icmp_eq (tgt := 1863) hx hb dL_law_338 (by decide) (fun c9 => ?_) (fun c9 => ?_)
  · replace h := iteT c9 h
    refine W.widen (k := 100 + 17 * (j + 1)) (n := 50000 + 3085 * (j + 1)) (by omega) (by omega) ?_
    exact hK _ _ _ _ h g _ _ _ CL hd hl
  · replace h := iteF c9 h
    exact absurd (Option.some.inj h) (by decide)

set_option maxRecDepth 100000 in
set_option maxHeartbeats 4000000 in
theorem lc_3 {p : Program} {l : Launch} {e : Env} {s : State} {m : MethodId} {below : List Frame} {meth : Method} {c : Code} {g : Gp} {b L j F : Nat} {xs : Nat → Int32} {K : Kt} {σ τ : St} {ex : Nat → Bool} {β : Nat → St} {H : Heap} {locs : List Loc} {ls : Array Slot} (CL : LC g p s m b L xs meth c) (hL : L ≤ 3072) (hj : 6 * j + 6 ≤ L) (h : fL_3 F j xs K σ τ ex β = some 1)
    (hK : ∀ (σ τ : St) (ex : Nat → Bool) (β : Nat → St), K σ τ ex β = some 1 → ∀ (g : Gp) (H : Heap) (locs : List Loc) (ls : Array Slot), LC g p s m b L xs meth c → Dy g (wD g σ ++ (slW g ex β ++ wM g τ)) s H locs → lv_has ls 4 [(0, .ref b), (1, .ref (ga g 0)), (2, .ref (ga g 40)), (3, .int (nI (6 * j)))] → W p l e room_1 s m #[Value.ref b] below meth c H locs (100 + 17 * (j + 1)) (50000 + 3085 * (j + 1)) (lw_Z below #[Value.ref b] s) (F0 m 1863 ls []))
    (hd : Dy g (wD g σ ++ (slW g ex β ++ wM g τ)) s H locs) (hl : lv_has ls 4 [(0, .ref b), (1, .ref (ga g 0)), (2, .ref (ga g 40)), (3, .int (nI (6 * j)))]) : W p l e room_1 s m #[Value.ref b] below meth c H locs (100 + 17 * j) (50000 + 3085 * j) (lw_Z below #[Value.ref b] s) (F0 m 343 ls []) := by
  have C := CL.1
  have hx := C.1
  have hb := C.2.1
  have hE := C.2.2.2.2.2.2.2.2
  have hcs : 100 + 17 * j ≤ room_1.cells ∧ 50000 + 3085 * j ≤ room_1.slots := ⟨by show 100 + 17 * j ≤ 600000; omega, by show 50000 + 3085 * j ≤ 7302250; omega⟩
  rw [fL_3] at h
  refine lv_aload_n hx hb dL_law_343 rfl (lv_at hl 1 rfl) ?_
  obtain ⟨r1, er1, h⟩ := cal_e h
  refine rCallI C hd (c_X7_place hE er1) kL_28 0 rfl rfl rfl rfl hl.1 rfl (Nat.le_of_ble_eq_true rfl) ⟨(Nat.le_of_ble_eq_true rfl), (Nat.le_of_ble_eq_true rfl)⟩ hcs dL_law_344 (fun H locs hd => ?_)
  refine lv_aload_n hx hb dL_law_347 rfl (lv_at hl 2 rfl) ?_
  have hd : Dy g (wM g τ ++ (wD g σ ++ slW g ex β)) s _ _ := Dy.perm hd wl_perm
  obtain ⟨r2, er2, h⟩ := cal_e h
  refine rCallI C hd (c_X8_place hE er2) kL_31 0 rfl rfl rfl rfl hl.1 rfl (Nat.le_of_ble_eq_true rfl) ⟨(Nat.le_of_ble_eq_true rfl), (Nat.le_of_ble_eq_true rfl)⟩ hcs dL_law_348 (fun H locs hd => ?_)
  have hd : Dy g (wD g σ ++ (slW g ex β ++ wM g τ)) s _ _ := Dy.perm hd wl_perm.symm
  refine lv_icmp_eq (tgt := 1863) hx hb dL_law_351 (by decide) (fun c9 => ?_) (fun c9 => ?_)
  · replace h := iteT c9 h
    refine W.widen (k := 100 + 17 * (j + 1)) (n := 50000 + 3085 * (j + 1)) (by omega) (by omega) ?_
    exact hK _ _ _ _ h g _ _ _ CL hd hl
  · replace h := iteF c9 h
    exact absurd (Option.some.inj h) (by decide)

set_option maxRecDepth 100000 in
set_option maxHeartbeats 4000000 in
theorem lc_4 {p : Program} {l : Launch} {e : Env} {s : State} {m : MethodId} {below : List Frame} {meth : Method} {c : Code} {g : Gp} {b L j F : Nat} {xs : Nat → Int32} {K : Kt} {σ τ : St} {ex : Nat → Bool} {β : Nat → St} {H : Heap} {locs : List Loc} {ls : Array Slot} (CL : LC g p s m b L xs meth c) (hL : L ≤ 3072) (hj : 6 * j + 6 ≤ L) (h : fL_4 F j xs K σ τ ex β = some 1)
    (hK : ∀ (σ τ : St) (ex : Nat → Bool) (β : Nat → St), K σ τ ex β = some 1 → ∀ (g : Gp) (H : Heap) (locs : List Loc) (ls : Array Slot), LC g p s m b L xs meth c → Dy g (wD g σ ++ (slW g ex β ++ wM g τ)) s H locs → lv_has ls 4 [(0, .ref b), (1, .ref (ga g 0)), (2, .ref (ga g 40)), (3, .int (nI (6 * j)))] → W p l e room_1 s m #[Value.ref b] below meth c H locs (100 + 17 * (j + 1)) (50000 + 3085 * (j + 1)) (lw_Z below #[Value.ref b] s) (F0 m 1863 ls []))
    (hd : Dy g (wD g σ ++ (slW g ex β ++ wM g τ)) s H locs) (hl : lv_has ls 4 [(0, .ref b), (1, .ref (ga g 0)), (2, .ref (ga g 40)), (3, .int (nI (6 * j)))]) : W p l e room_1 s m #[Value.ref b] below meth c H locs (100 + 17 * j) (50000 + 3085 * j) (lw_Z below #[Value.ref b] s) (F0 m 356 ls []) := by
  have C := CL.1
  have hx := C.1
  have hb := C.2.1
  have hE := C.2.2.2.2.2.2.2.2
  have hcs : 100 + 17 * j ≤ room_1.cells ∧ 50000 + 3085 * j ≤ room_1.slots := ⟨by show 100 + 17 * j ≤ 600000; omega, by show 50000 + 3085 * j ≤ 7302250; omega⟩
  rw [fL_4] at h
  refine lv_aload_n hx hb dL_law_356 rfl (lv_at hl 1 rfl) ?_
  refine lv_aload_n hx hb dL_law_357 rfl (lv_at hl 0 rfl) ?_
  refine lv_iload_n hx hb dL_law_358 rfl (lv_at hl 3 rfl) ?_
  refine lv_iconst (v := nI 1) hx hb dL_law_359 (by decide) ?_
  refine rScr (q := 1) CL hd hL hj (by decide) dL_law_360 dL_law_361 ?_
  refine lv_aload_n hx hb dL_law_362 rfl (lv_at hl 0 rfl) ?_
  refine lv_iload_n hx hb dL_law_363 rfl (lv_at hl 3 rfl) ?_
  refine lv_iconst (v := nI 2) hx hb dL_law_364 (by decide) ?_
  refine rScr (q := 2) CL hd hL hj (by decide) dL_law_365 dL_law_366 ?_
  obtain ⟨r1, σ1, er1, h⟩ := cal2_e h
  refine rCallI C hd (c_X7_write hE er1) kL_32 0 rfl rfl rfl rfl hl.1 rfl (Nat.le_of_ble_eq_true rfl) ⟨(Nat.le_of_ble_eq_true rfl), (Nat.le_of_ble_eq_true rfl)⟩ hcs dL_law_367 (fun H locs hd => ?_)
  refine lv_aload_n hx hb dL_law_370 rfl (lv_at hl 2 rfl) ?_
  refine lv_aload_n hx hb dL_law_371 rfl (lv_at hl 0 rfl) ?_
  refine lv_iload_n hx hb dL_law_372 rfl (lv_at hl 3 rfl) ?_
  refine lv_iconst (v := nI 1) hx hb dL_law_373 (by decide) ?_
  refine rScr (q := 1) CL hd hL hj (by decide) dL_law_374 dL_law_375 ?_
  refine lv_aload_n hx hb dL_law_376 rfl (lv_at hl 0 rfl) ?_
  refine lv_iload_n hx hb dL_law_377 rfl (lv_at hl 3 rfl) ?_
  refine lv_iconst (v := nI 2) hx hb dL_law_378 (by decide) ?_
  refine rScr (q := 2) CL hd hL hj (by decide) dL_law_379 dL_law_380 ?_
  have hd : Dy g (wM g τ ++ (wD g σ1 ++ slW g ex β)) s _ _ := Dy.perm hd wl_perm
  obtain ⟨r2, τ1, er2, h⟩ := cal2_e h
  refine rCallI C hd (c_X8_write hE er2) kL_36 0 rfl rfl rfl rfl hl.1 rfl (Nat.le_of_ble_eq_true rfl) ⟨(Nat.le_of_ble_eq_true rfl), (Nat.le_of_ble_eq_true rfl)⟩ hcs dL_law_381 (fun H locs hd => ?_)
  have hd : Dy g (wD g σ1 ++ (slW g ex β ++ wM g τ1)) s _ _ := Dy.perm hd wl_perm.symm
  refine lv_icmp_eq (tgt := 1863) hx hb dL_law_384 (by decide) (fun c9 => ?_) (fun c9 => ?_)
  · replace h := iteT c9 h
    refine W.widen (k := 100 + 17 * (j + 1)) (n := 50000 + 3085 * (j + 1)) (by omega) (by omega) ?_
    exact hK _ _ _ _ h g _ _ _ CL hd hl
  · replace h := iteF c9 h
    exact absurd (Option.some.inj h) (by decide)

set_option maxRecDepth 100000 in
set_option maxHeartbeats 4000000 in
theorem lc_5 {p : Program} {l : Launch} {e : Env} {s : State} {m : MethodId} {below : List Frame} {meth : Method} {c : Code} {g : Gp} {b L j F : Nat} {xs : Nat → Int32} {K : Kt} {σ τ : St} {ex : Nat → Bool} {β : Nat → St} {H : Heap} {locs : List Loc} {ls : Array Slot} (CL : LC g p s m b L xs meth c) (hL : L ≤ 3072) (hj : 6 * j + 6 ≤ L) (h : fL_5 F j xs K σ τ ex β = some 1)
    (hK : ∀ (σ τ : St) (ex : Nat → Bool) (β : Nat → St), K σ τ ex β = some 1 → ∀ (g : Gp) (H : Heap) (locs : List Loc) (ls : Array Slot), LC g p s m b L xs meth c → Dy g (wD g σ ++ (slW g ex β ++ wM g τ)) s H locs → lv_has ls 4 [(0, .ref b), (1, .ref (ga g 0)), (2, .ref (ga g 40)), (3, .int (nI (6 * j)))] → W p l e room_1 s m #[Value.ref b] below meth c H locs (100 + 17 * (j + 1)) (50000 + 3085 * (j + 1)) (lw_Z below #[Value.ref b] s) (F0 m 1863 ls []))
    (hd : Dy g (wD g σ ++ (slW g ex β ++ wM g τ)) s H locs) (hl : lv_has ls 4 [(0, .ref b), (1, .ref (ga g 0)), (2, .ref (ga g 40)), (3, .int (nI (6 * j)))]) : W p l e room_1 s m #[Value.ref b] below meth c H locs (100 + 17 * j) (50000 + 3085 * j) (lw_Z below #[Value.ref b] s) (F0 m 389 ls []) := by
  have C := CL.1
  have hx := C.1
  have hb := C.2.1
  have hE := C.2.2.2.2.2.2.2.2
  have hcs : 100 + 17 * j ≤ room_1.cells ∧ 50000 + 3085 * j ≤ room_1.slots := ⟨by show 100 + 17 * j ≤ 600000; omega, by show 50000 + 3085 * j ≤ 7302250; omega⟩
  rw [fL_5] at h
  refine lv_aload_n hx hb dL_law_389 rfl (lv_at hl 1 rfl) ?_
  refine lv_aload_n hx hb dL_law_390 rfl (lv_at hl 0 rfl) ?_
  refine lv_iload_n hx hb dL_law_391 rfl (lv_at hl 3 rfl) ?_
  refine lv_iconst (v := nI 1) hx hb dL_law_392 (by decide) ?_
  refine rScr (q := 1) CL hd hL hj (by decide) dL_law_393 dL_law_394 ?_
  refine lv_aload_n hx hb dL_law_395 rfl (lv_at hl 0 rfl) ?_
  refine lv_iload_n hx hb dL_law_396 rfl (lv_at hl 3 rfl) ?_
  refine lv_iconst (v := nI 2) hx hb dL_law_397 (by decide) ?_
  refine rScr (q := 2) CL hd hL hj (by decide) dL_law_398 dL_law_399 ?_
  obtain ⟨r1, σ1, er1, h⟩ := cal2_e h
  refine rCallI C hd (c_X7_add hE er1) kL_37 0 rfl rfl rfl rfl hl.1 rfl (Nat.le_of_ble_eq_true rfl) ⟨(Nat.le_of_ble_eq_true rfl), (Nat.le_of_ble_eq_true rfl)⟩ hcs dL_law_400 (fun H locs hd => ?_)
  refine lv_aload_n hx hb dL_law_403 rfl (lv_at hl 2 rfl) ?_
  refine lv_aload_n hx hb dL_law_404 rfl (lv_at hl 0 rfl) ?_
  refine lv_iload_n hx hb dL_law_405 rfl (lv_at hl 3 rfl) ?_
  refine lv_iconst (v := nI 1) hx hb dL_law_406 (by decide) ?_
  refine rScr (q := 1) CL hd hL hj (by decide) dL_law_407 dL_law_408 ?_
  refine lv_aload_n hx hb dL_law_409 rfl (lv_at hl 0 rfl) ?_
  refine lv_iload_n hx hb dL_law_410 rfl (lv_at hl 3 rfl) ?_
  refine lv_iconst (v := nI 2) hx hb dL_law_411 (by decide) ?_
  refine rScr (q := 2) CL hd hL hj (by decide) dL_law_412 dL_law_413 ?_
  have hd : Dy g (wM g τ ++ (wD g σ1 ++ slW g ex β)) s _ _ := Dy.perm hd wl_perm
  obtain ⟨r2, τ1, er2, h⟩ := cal2_e h
  refine rCallI C hd (c_X8_add hE er2) kL_40 0 rfl rfl rfl rfl hl.1 rfl (Nat.le_of_ble_eq_true rfl) ⟨(Nat.le_of_ble_eq_true rfl), (Nat.le_of_ble_eq_true rfl)⟩ hcs dL_law_414 (fun H locs hd => ?_)
  have hd : Dy g (wD g σ1 ++ (slW g ex β ++ wM g τ1)) s _ _ := Dy.perm hd wl_perm.symm
  refine lv_icmp_eq (tgt := 1863) hx hb dL_law_417 (by decide) (fun c9 => ?_) (fun c9 => ?_)
  · replace h := iteT c9 h
    refine W.widen (k := 100 + 17 * (j + 1)) (n := 50000 + 3085 * (j + 1)) (by omega) (by omega) ?_
    exact hK _ _ _ _ h g _ _ _ CL hd hl
  · replace h := iteF c9 h
    exact absurd (Option.some.inj h) (by decide)

set_option maxRecDepth 100000 in
set_option maxHeartbeats 4000000 in
theorem lc_6 {p : Program} {l : Launch} {e : Env} {s : State} {m : MethodId} {below : List Frame} {meth : Method} {c : Code} {g : Gp} {b L j F : Nat} {xs : Nat → Int32} {K : Kt} {σ τ : St} {ex : Nat → Bool} {β : Nat → St} {H : Heap} {locs : List Loc} {ls : Array Slot} (CL : LC g p s m b L xs meth c) (hL : L ≤ 3072) (hj : 6 * j + 6 ≤ L) (h : fL_6 F j xs K σ τ ex β = some 1)
    (hK : ∀ (σ τ : St) (ex : Nat → Bool) (β : Nat → St), K σ τ ex β = some 1 → ∀ (g : Gp) (H : Heap) (locs : List Loc) (ls : Array Slot), LC g p s m b L xs meth c → Dy g (wD g σ ++ (slW g ex β ++ wM g τ)) s H locs → lv_has ls 4 [(0, .ref b), (1, .ref (ga g 0)), (2, .ref (ga g 40)), (3, .int (nI (6 * j)))] → W p l e room_1 s m #[Value.ref b] below meth c H locs (100 + 17 * (j + 1)) (50000 + 3085 * (j + 1)) (lw_Z below #[Value.ref b] s) (F0 m 1863 ls []))
    (hd : Dy g (wD g σ ++ (slW g ex β ++ wM g τ)) s H locs) (hl : lv_has ls 4 [(0, .ref b), (1, .ref (ga g 0)), (2, .ref (ga g 40)), (3, .int (nI (6 * j)))]) : W p l e room_1 s m #[Value.ref b] below meth c H locs (100 + 17 * j) (50000 + 3085 * j) (lw_Z below #[Value.ref b] s) (F0 m 422 ls []) := by
  have C := CL.1
  have hx := C.1
  have hb := C.2.1
  have hE := C.2.2.2.2.2.2.2.2
  have hcs : 100 + 17 * j ≤ room_1.cells ∧ 50000 + 3085 * j ≤ room_1.slots := ⟨by show 100 + 17 * j ≤ 600000; omega, by show 50000 + 3085 * j ≤ 7302250; omega⟩
  rw [fL_6] at h
  refine lv_aload_n hx hb dL_law_422 rfl (lv_at hl 1 rfl) ?_
  refine lv_aload_n hx hb dL_law_423 rfl (lv_at hl 0 rfl) ?_
  refine lv_iload_n hx hb dL_law_424 rfl (lv_at hl 3 rfl) ?_
  refine lv_iconst (v := nI 1) hx hb dL_law_425 (by decide) ?_
  refine rScr (q := 1) CL hd hL hj (by decide) dL_law_426 dL_law_427 ?_
  obtain ⟨r1, σ1, er1, h⟩ := cal2_e h
  refine rCallI C hd (c_X7_mark hE er1) kL_41 0 rfl rfl rfl rfl hl.1 rfl (Nat.le_of_ble_eq_true rfl) ⟨(Nat.le_of_ble_eq_true rfl), (Nat.le_of_ble_eq_true rfl)⟩ hcs dL_law_428 (fun H locs hd => ?_)
  refine lv_aload_n hx hb dL_law_431 rfl (lv_at hl 2 rfl) ?_
  refine lv_aload_n hx hb dL_law_432 rfl (lv_at hl 0 rfl) ?_
  refine lv_iload_n hx hb dL_law_433 rfl (lv_at hl 3 rfl) ?_
  refine lv_iconst (v := nI 1) hx hb dL_law_434 (by decide) ?_
  refine rScr (q := 1) CL hd hL hj (by decide) dL_law_435 dL_law_436 ?_
  have hd : Dy g (wM g τ ++ (wD g σ1 ++ slW g ex β)) s _ _ := Dy.perm hd wl_perm
  obtain ⟨r2, τ1, er2, h⟩ := cal2_e h
  refine rCallI C hd (c_X8_mark hE er2) kL_44 0 rfl rfl rfl rfl hl.1 rfl (Nat.le_of_ble_eq_true rfl) ⟨(Nat.le_of_ble_eq_true rfl), (Nat.le_of_ble_eq_true rfl)⟩ hcs dL_law_437 (fun H locs hd => ?_)
  have hd : Dy g (wD g σ1 ++ (slW g ex β ++ wM g τ1)) s _ _ := Dy.perm hd wl_perm.symm
  refine lv_icmp_eq (tgt := 1863) hx hb dL_law_440 (by decide) (fun c9 => ?_) (fun c9 => ?_)
  · replace h := iteT c9 h
    refine W.widen (k := 100 + 17 * (j + 1)) (n := 50000 + 3085 * (j + 1)) (by omega) (by omega) ?_
    exact hK _ _ _ _ h g _ _ _ CL hd hl
  · replace h := iteF c9 h
    exact absurd (Option.some.inj h) (by decide)

set_option maxRecDepth 100000 in
set_option maxHeartbeats 4000000 in
theorem lc_7 {p : Program} {l : Launch} {e : Env} {s : State} {m : MethodId} {below : List Frame} {meth : Method} {c : Code} {g : Gp} {b L j F : Nat} {xs : Nat → Int32} {K : Kt} {σ τ : St} {ex : Nat → Bool} {β : Nat → St} {H : Heap} {locs : List Loc} {ls : Array Slot} (CL : LC g p s m b L xs meth c) (hL : L ≤ 3072) (hj : 6 * j + 6 ≤ L) (h : fL_7 F j xs K σ τ ex β = some 1)
    (hK : ∀ (σ τ : St) (ex : Nat → Bool) (β : Nat → St), K σ τ ex β = some 1 → ∀ (g : Gp) (H : Heap) (locs : List Loc) (ls : Array Slot), LC g p s m b L xs meth c → Dy g (wD g σ ++ (slW g ex β ++ wM g τ)) s H locs → lv_has ls 4 [(0, .ref b), (1, .ref (ga g 0)), (2, .ref (ga g 40)), (3, .int (nI (6 * j)))] → W p l e room_1 s m #[Value.ref b] below meth c H locs (100 + 17 * (j + 1)) (50000 + 3085 * (j + 1)) (lw_Z below #[Value.ref b] s) (F0 m 1863 ls []))
    (hd : Dy g (wD g σ ++ (slW g ex β ++ wM g τ)) s H locs) (hl : lv_has ls 4 [(0, .ref b), (1, .ref (ga g 0)), (2, .ref (ga g 40)), (3, .int (nI (6 * j)))]) : W p l e room_1 s m #[Value.ref b] below meth c H locs (100 + 17 * j) (50000 + 3085 * j) (lw_Z below #[Value.ref b] s) (F0 m 445 ls []) := by
  have C := CL.1
  have hx := C.1
  have hb := C.2.1
  have hE := C.2.2.2.2.2.2.2.2
  have hcs : 100 + 17 * j ≤ room_1.cells ∧ 50000 + 3085 * j ≤ room_1.slots := ⟨by show 100 + 17 * j ≤ 600000; omega, by show 50000 + 3085 * j ≤ 7302250; omega⟩
  rw [fL_7] at h
  refine lv_aload_n hx hb dL_law_445 rfl (lv_at hl 1 rfl) ?_
  obtain ⟨r1, σ1, er1, h⟩ := cal2_e h
  refine rCallI C hd (c_X7_fill hE er1) kL_45 0 rfl rfl rfl rfl hl.1 rfl (Nat.le_of_ble_eq_true rfl) ⟨(Nat.le_of_ble_eq_true rfl), (Nat.le_of_ble_eq_true rfl)⟩ hcs dL_law_446 (fun H locs hd => ?_)
  refine lv_aload_n hx hb dL_law_449 rfl (lv_at hl 2 rfl) ?_
  have hd : Dy g (wM g τ ++ (wD g σ1 ++ slW g ex β)) s _ _ := Dy.perm hd wl_perm
  obtain ⟨r2, τ1, er2, h⟩ := cal2_e h
  refine rCallI C hd (c_X8_fill hE er2) kL_48 0 rfl rfl rfl rfl hl.1 rfl (Nat.le_of_ble_eq_true rfl) ⟨(Nat.le_of_ble_eq_true rfl), (Nat.le_of_ble_eq_true rfl)⟩ hcs dL_law_450 (fun H locs hd => ?_)
  have hd : Dy g (wD g σ1 ++ (slW g ex β ++ wM g τ1)) s _ _ := Dy.perm hd wl_perm.symm
  refine lv_icmp_eq (tgt := 1863) hx hb dL_law_453 (by decide) (fun c9 => ?_) (fun c9 => ?_)
  · replace h := iteT c9 h
    refine W.widen (k := 100 + 17 * (j + 1)) (n := 50000 + 3085 * (j + 1)) (by omega) (by omega) ?_
    exact hK _ _ _ _ h g _ _ _ CL hd hl
  · replace h := iteF c9 h
    exact absurd (Option.some.inj h) (by decide)

set_option maxRecDepth 100000 in
set_option maxHeartbeats 4000000 in
theorem lc_8 {p : Program} {l : Launch} {e : Env} {s : State} {m : MethodId} {below : List Frame} {meth : Method} {c : Code} {g : Gp} {b L j F : Nat} {xs : Nat → Int32} {K : Kt} {σ τ : St} {ex : Nat → Bool} {β : Nat → St} {H : Heap} {locs : List Loc} {ls : Array Slot} (CL : LC g p s m b L xs meth c) (hL : L ≤ 3072) (hj : 6 * j + 6 ≤ L) (h : fL_8 F j xs K σ τ ex β = some 1)
    (hK : ∀ (σ τ : St) (ex : Nat → Bool) (β : Nat → St), K σ τ ex β = some 1 → ∀ (g : Gp) (H : Heap) (locs : List Loc) (ls : Array Slot), LC g p s m b L xs meth c → Dy g (wD g σ ++ (slW g ex β ++ wM g τ)) s H locs → lv_has ls 4 [(0, .ref b), (1, .ref (ga g 0)), (2, .ref (ga g 40)), (3, .int (nI (6 * j)))] → W p l e room_1 s m #[Value.ref b] below meth c H locs (100 + 17 * (j + 1)) (50000 + 3085 * (j + 1)) (lw_Z below #[Value.ref b] s) (F0 m 1863 ls []))
    (hd : Dy g (wD g σ ++ (slW g ex β ++ wM g τ)) s H locs) (hl : lv_has ls 4 [(0, .ref b), (1, .ref (ga g 0)), (2, .ref (ga g 40)), (3, .int (nI (6 * j)))]) : W p l e room_1 s m #[Value.ref b] below meth c H locs (100 + 17 * j) (50000 + 3085 * j) (lw_Z below #[Value.ref b] s) (F0 m 458 ls []) := by
  have C := CL.1
  have hx := C.1
  have hb := C.2.1
  have hE := C.2.2.2.2.2.2.2.2
  have hcs : 100 + 17 * j ≤ room_1.cells ∧ 50000 + 3085 * j ≤ room_1.slots := ⟨by show 100 + 17 * j ≤ 600000; omega, by show 50000 + 3085 * j ≤ 7302250; omega⟩
  rw [fL_8] at h
  refine lv_aload_n hx hb dL_law_458 rfl (lv_at hl 1 rfl) ?_
  refine lv_aload_n hx hb dL_law_459 rfl (lv_at hl 0 rfl) ?_
  refine lv_iload_n hx hb dL_law_460 rfl (lv_at hl 3 rfl) ?_
  refine lv_iconst (v := nI 1) hx hb dL_law_461 (by decide) ?_
  refine rScr (q := 1) CL hd hL hj (by decide) dL_law_462 dL_law_463 ?_
  obtain ⟨r1, σ1, er1, h⟩ := cal2_e h
  refine rCallI C hd (c_X7_copy hE er1) kL_49 0 rfl rfl rfl rfl hl.1 rfl (Nat.le_of_ble_eq_true rfl) ⟨(Nat.le_of_ble_eq_true rfl), (Nat.le_of_ble_eq_true rfl)⟩ hcs dL_law_464 (fun H locs hd => ?_)
  refine lv_aload_n hx hb dL_law_467 rfl (lv_at hl 2 rfl) ?_
  refine lv_aload_n hx hb dL_law_468 rfl (lv_at hl 0 rfl) ?_
  refine lv_iload_n hx hb dL_law_469 rfl (lv_at hl 3 rfl) ?_
  refine lv_iconst (v := nI 1) hx hb dL_law_470 (by decide) ?_
  refine rScr (q := 1) CL hd hL hj (by decide) dL_law_471 dL_law_472 ?_
  have hd : Dy g (wM g τ ++ (wD g σ1 ++ slW g ex β)) s _ _ := Dy.perm hd wl_perm
  obtain ⟨r2, τ1, er2, h⟩ := cal2_e h
  refine rCallI C hd (c_X8_copy hE er2) kL_52 0 rfl rfl rfl rfl hl.1 rfl (Nat.le_of_ble_eq_true rfl) ⟨(Nat.le_of_ble_eq_true rfl), (Nat.le_of_ble_eq_true rfl)⟩ hcs dL_law_473 (fun H locs hd => ?_)
  have hd : Dy g (wD g σ1 ++ (slW g ex β ++ wM g τ1)) s _ _ := Dy.perm hd wl_perm.symm
  refine lv_icmp_eq (tgt := 1863) hx hb dL_law_476 (by decide) (fun c9 => ?_) (fun c9 => ?_)
  · replace h := iteT c9 h
    refine W.widen (k := 100 + 17 * (j + 1)) (n := 50000 + 3085 * (j + 1)) (by omega) (by omega) ?_
    exact hK _ _ _ _ h g _ _ _ CL hd hl
  · replace h := iteF c9 h
    exact absurd (Option.some.inj h) (by decide)

set_option maxRecDepth 100000 in
set_option maxHeartbeats 4000000 in
theorem lc_9 {p : Program} {l : Launch} {e : Env} {s : State} {m : MethodId} {below : List Frame} {meth : Method} {c : Code} {g : Gp} {b L j F : Nat} {xs : Nat → Int32} {K : Kt} {σ τ : St} {ex : Nat → Bool} {β : Nat → St} {H : Heap} {locs : List Loc} {ls : Array Slot} (CL : LC g p s m b L xs meth c) (hL : L ≤ 3072) (hj : 6 * j + 6 ≤ L) (h : fL_9 F j xs K σ τ ex β = some 1)
    (hK : ∀ (σ τ : St) (ex : Nat → Bool) (β : Nat → St), K σ τ ex β = some 1 → ∀ (g : Gp) (H : Heap) (locs : List Loc) (ls : Array Slot), LC g p s m b L xs meth c → Dy g (wD g σ ++ (slW g ex β ++ wM g τ)) s H locs → lv_has ls 4 [(0, .ref b), (1, .ref (ga g 0)), (2, .ref (ga g 40)), (3, .int (nI (6 * j)))] → W p l e room_1 s m #[Value.ref b] below meth c H locs (100 + 17 * (j + 1)) (50000 + 3085 * (j + 1)) (lw_Z below #[Value.ref b] s) (F0 m 1863 ls []))
    (hd : Dy g (wD g σ ++ (slW g ex β ++ wM g τ)) s H locs) (hl : lv_has ls 4 [(0, .ref b), (1, .ref (ga g 0)), (2, .ref (ga g 40)), (3, .int (nI (6 * j)))]) : W p l e room_1 s m #[Value.ref b] below meth c H locs (100 + 17 * j) (50000 + 3085 * j) (lw_Z below #[Value.ref b] s) (F0 m 481 ls []) := by
  have C := CL.1
  have hx := C.1
  have hb := C.2.1
  have hE := C.2.2.2.2.2.2.2.2
  have hcs : 100 + 17 * j ≤ room_1.cells ∧ 50000 + 3085 * j ≤ room_1.slots := ⟨by show 100 + 17 * j ≤ 600000; omega, by show 50000 + 3085 * j ≤ 7302250; omega⟩
  rw [fL_9] at h
  refine lv_aload_n hx hb dL_law_481 rfl (lv_at hl 1 rfl) ?_
  refine lv_aload_n hx hb dL_law_482 rfl (lv_at hl 0 rfl) ?_
  refine lv_iload_n hx hb dL_law_483 rfl (lv_at hl 3 rfl) ?_
  refine lv_iconst (v := nI 1) hx hb dL_law_484 (by decide) ?_
  refine rScr (q := 1) CL hd hL hj (by decide) dL_law_485 dL_law_486 ?_
  refine lv_aload_n hx hb dL_law_487 rfl (lv_at hl 0 rfl) ?_
  refine lv_iload_n hx hb dL_law_488 rfl (lv_at hl 3 rfl) ?_
  refine lv_iconst (v := nI 2) hx hb dL_law_489 (by decide) ?_
  refine rScr (q := 2) CL hd hL hj (by decide) dL_law_490 dL_law_491 ?_
  obtain ⟨r1, σ1, er1, h⟩ := cal2_e h
  refine rCallI C hd (c_X7_take hE er1) kL_53 0 rfl rfl rfl rfl hl.1 rfl (Nat.le_of_ble_eq_true rfl) ⟨(Nat.le_of_ble_eq_true rfl), (Nat.le_of_ble_eq_true rfl)⟩ hcs dL_law_492 (fun H locs hd => ?_)
  refine lv_aload_n hx hb dL_law_495 rfl (lv_at hl 2 rfl) ?_
  refine lv_aload_n hx hb dL_law_496 rfl (lv_at hl 0 rfl) ?_
  refine lv_iload_n hx hb dL_law_497 rfl (lv_at hl 3 rfl) ?_
  refine lv_iconst (v := nI 1) hx hb dL_law_498 (by decide) ?_
  refine rScr (q := 1) CL hd hL hj (by decide) dL_law_499 dL_law_500 ?_
  refine lv_aload_n hx hb dL_law_501 rfl (lv_at hl 0 rfl) ?_
  refine lv_iload_n hx hb dL_law_502 rfl (lv_at hl 3 rfl) ?_
  refine lv_iconst (v := nI 2) hx hb dL_law_503 (by decide) ?_
  refine rScr (q := 2) CL hd hL hj (by decide) dL_law_504 dL_law_505 ?_
  have hd : Dy g (wM g τ ++ (wD g σ1 ++ slW g ex β)) s _ _ := Dy.perm hd wl_perm
  obtain ⟨r2, τ1, er2, h⟩ := cal2_e h
  refine rCallI C hd (c_X8_take hE er2) kL_57 0 rfl rfl rfl rfl hl.1 rfl (Nat.le_of_ble_eq_true rfl) ⟨(Nat.le_of_ble_eq_true rfl), (Nat.le_of_ble_eq_true rfl)⟩ hcs dL_law_506 (fun H locs hd => ?_)
  have hd : Dy g (wD g σ1 ++ (slW g ex β ++ wM g τ1)) s _ _ := Dy.perm hd wl_perm.symm
  refine lv_icmp_eq (tgt := 1863) hx hb dL_law_509 (by decide) (fun c9 => ?_) (fun c9 => ?_)
  · replace h := iteT c9 h
    refine W.widen (k := 100 + 17 * (j + 1)) (n := 50000 + 3085 * (j + 1)) (by omega) (by omega) ?_
    exact hK _ _ _ _ h g _ _ _ CL hd hl
  · replace h := iteF c9 h
    exact absurd (Option.some.inj h) (by decide)

set_option maxRecDepth 100000 in
set_option maxHeartbeats 4000000 in
theorem lc_10 {p : Program} {l : Launch} {e : Env} {s : State} {m : MethodId} {below : List Frame} {meth : Method} {c : Code} {g : Gp} {b L j F : Nat} {xs : Nat → Int32} {K : Kt} {σ τ : St} {ex : Nat → Bool} {β : Nat → St} {H : Heap} {locs : List Loc} {ls : Array Slot} (CL : LC g p s m b L xs meth c) (hL : L ≤ 3072) (hj : 6 * j + 6 ≤ L) (h : fL_10 F j xs K σ τ ex β = some 1)
    (hK : ∀ (σ τ : St) (ex : Nat → Bool) (β : Nat → St), K σ τ ex β = some 1 → ∀ (g : Gp) (H : Heap) (locs : List Loc) (ls : Array Slot), LC g p s m b L xs meth c → Dy g (wD g σ ++ (slW g ex β ++ wM g τ)) s H locs → lv_has ls 4 [(0, .ref b), (1, .ref (ga g 0)), (2, .ref (ga g 40)), (3, .int (nI (6 * j)))] → W p l e room_1 s m #[Value.ref b] below meth c H locs (100 + 17 * (j + 1)) (50000 + 3085 * (j + 1)) (lw_Z below #[Value.ref b] s) (F0 m 1863 ls []))
    (hd : Dy g (wD g σ ++ (slW g ex β ++ wM g τ)) s H locs) (hl : lv_has ls 4 [(0, .ref b), (1, .ref (ga g 0)), (2, .ref (ga g 40)), (3, .int (nI (6 * j)))]) : W p l e room_1 s m #[Value.ref b] below meth c H locs (100 + 17 * j) (50000 + 3085 * j) (lw_Z below #[Value.ref b] s) (F0 m 514 ls []) := by
  have C := CL.1
  have hx := C.1
  have hb := C.2.1
  have hE := C.2.2.2.2.2.2.2.2
  have hcs : 100 + 17 * j ≤ room_1.cells ∧ 50000 + 3085 * j ≤ room_1.slots := ⟨by show 100 + 17 * j ≤ 600000; omega, by show 50000 + 3085 * j ≤ 7302250; omega⟩
  rw [fL_10] at h
  refine lv_aload_n hx hb dL_law_514 rfl (lv_at hl 1 rfl) ?_
  refine lv_aload_n hx hb dL_law_515 rfl (lv_at hl 0 rfl) ?_
  refine lv_iload_n hx hb dL_law_516 rfl (lv_at hl 3 rfl) ?_
  refine lv_iconst (v := nI 1) hx hb dL_law_517 (by decide) ?_
  refine rScr (q := 1) CL hd hL hj (by decide) dL_law_518 dL_law_519 ?_
  obtain ⟨r1, σ1, er1, h⟩ := cal2_e h
  refine rCallI C hd (c_X7_close hE er1) kL_58 0 rfl rfl rfl rfl hl.1 rfl (Nat.le_of_ble_eq_true rfl) ⟨(Nat.le_of_ble_eq_true rfl), (Nat.le_of_ble_eq_true rfl)⟩ hcs dL_law_520 (fun H locs hd => ?_)
  refine lv_aload_n hx hb dL_law_523 rfl (lv_at hl 2 rfl) ?_
  refine lv_aload_n hx hb dL_law_524 rfl (lv_at hl 0 rfl) ?_
  refine lv_iload_n hx hb dL_law_525 rfl (lv_at hl 3 rfl) ?_
  refine lv_iconst (v := nI 1) hx hb dL_law_526 (by decide) ?_
  refine rScr (q := 1) CL hd hL hj (by decide) dL_law_527 dL_law_528 ?_
  have hd : Dy g (wM g τ ++ (wD g σ1 ++ slW g ex β)) s _ _ := Dy.perm hd wl_perm
  obtain ⟨r2, τ1, er2, h⟩ := cal2_e h
  refine rCallI C hd (c_X8_close hE er2) kL_62 0 rfl rfl rfl rfl hl.1 rfl (Nat.le_of_ble_eq_true rfl) ⟨(Nat.le_of_ble_eq_true rfl), (Nat.le_of_ble_eq_true rfl)⟩ hcs dL_law_529 (fun H locs hd => ?_)
  have hd : Dy g (wD g σ1 ++ (slW g ex β ++ wM g τ1)) s _ _ := Dy.perm hd wl_perm.symm
  refine lv_icmp_eq (tgt := 1863) hx hb dL_law_532 (by decide) (fun c9 => ?_) (fun c9 => ?_)
  · replace h := iteT c9 h
    refine W.widen (k := 100 + 17 * (j + 1)) (n := 50000 + 3085 * (j + 1)) (by omega) (by omega) ?_
    exact hK _ _ _ _ h g _ _ _ CL hd hl
  · replace h := iteF c9 h
    exact absurd (Option.some.inj h) (by decide)

set_option maxRecDepth 100000 in
set_option maxHeartbeats 4000000 in
theorem lc_11 {p : Program} {l : Launch} {e : Env} {s : State} {m : MethodId} {below : List Frame} {meth : Method} {c : Code} {g : Gp} {b L j F : Nat} {xs : Nat → Int32} {K : Kt} {σ τ : St} {ex : Nat → Bool} {β : Nat → St} {H : Heap} {locs : List Loc} {ls : Array Slot} (CL : LC g p s m b L xs meth c) (hL : L ≤ 3072) (hj : 6 * j + 6 ≤ L) (h : fL_11 F j xs K σ τ ex β = some 1)
    (hK : ∀ (σ τ : St) (ex : Nat → Bool) (β : Nat → St), K σ τ ex β = some 1 → ∀ (g : Gp) (H : Heap) (locs : List Loc) (ls : Array Slot), LC g p s m b L xs meth c → Dy g (wD g σ ++ (slW g ex β ++ wM g τ)) s H locs → lv_has ls 4 [(0, .ref b), (1, .ref (ga g 0)), (2, .ref (ga g 40)), (3, .int (nI (6 * j)))] → W p l e room_1 s m #[Value.ref b] below meth c H locs (100 + 17 * (j + 1)) (50000 + 3085 * (j + 1)) (lw_Z below #[Value.ref b] s) (F0 m 1863 ls []))
    (hd : Dy g (wD g σ ++ (slW g ex β ++ wM g τ)) s H locs) (hl : lv_has ls 4 [(0, .ref b), (1, .ref (ga g 0)), (2, .ref (ga g 40)), (3, .int (nI (6 * j)))]) : W p l e room_1 s m #[Value.ref b] below meth c H locs (100 + 17 * j) (50000 + 3085 * j) (lw_Z below #[Value.ref b] s) (F0 m 537 ls []) := by
  have C := CL.1
  have hx := C.1
  have hb := C.2.1
  have hE := C.2.2.2.2.2.2.2.2
  have hcs : 100 + 17 * j ≤ room_1.cells ∧ 50000 + 3085 * j ≤ room_1.slots := ⟨by show 100 + 17 * j ≤ 600000; omega, by show 50000 + 3085 * j ≤ 7302250; omega⟩
  rw [fL_11] at h
  refine lv_aload_n hx hb dL_law_537 rfl (lv_at hl 1 rfl) ?_
  refine lv_aload_n hx hb dL_law_538 rfl (lv_at hl 0 rfl) ?_
  refine lv_iload_n hx hb dL_law_539 rfl (lv_at hl 3 rfl) ?_
  refine lv_iconst (v := nI 1) hx hb dL_law_540 (by decide) ?_
  refine rScr (q := 1) CL hd hL hj (by decide) dL_law_541 dL_law_542 ?_
  obtain ⟨r1, σ1, er1, h⟩ := cal2_e h
  refine rCallI C hd (c_X7_combine hE er1) kL_63 0 rfl rfl rfl rfl hl.1 rfl (Nat.le_of_ble_eq_true rfl) ⟨(Nat.le_of_ble_eq_true rfl), (Nat.le_of_ble_eq_true rfl)⟩ hcs dL_law_543 (fun H locs hd => ?_)
  refine lv_aload_n hx hb dL_law_546 rfl (lv_at hl 2 rfl) ?_
  refine lv_aload_n hx hb dL_law_547 rfl (lv_at hl 0 rfl) ?_
  refine lv_iload_n hx hb dL_law_548 rfl (lv_at hl 3 rfl) ?_
  refine lv_iconst (v := nI 1) hx hb dL_law_549 (by decide) ?_
  refine rScr (q := 1) CL hd hL hj (by decide) dL_law_550 dL_law_551 ?_
  have hd : Dy g (wM g τ ++ (wD g σ1 ++ slW g ex β)) s _ _ := Dy.perm hd wl_perm
  obtain ⟨r2, τ1, er2, h⟩ := cal2_e h
  refine rCallI C hd (c_X8_combine hE er2) kL_66 0 rfl rfl rfl rfl hl.1 rfl (Nat.le_of_ble_eq_true rfl) ⟨(Nat.le_of_ble_eq_true rfl), (Nat.le_of_ble_eq_true rfl)⟩ hcs dL_law_552 (fun H locs hd => ?_)
  have hd : Dy g (wD g σ1 ++ (slW g ex β ++ wM g τ1)) s _ _ := Dy.perm hd wl_perm.symm
  refine lv_icmp_eq (tgt := 1863) hx hb dL_law_555 (by decide) (fun c9 => ?_) (fun c9 => ?_)
  · replace h := iteT c9 h
    refine W.widen (k := 100 + 17 * (j + 1)) (n := 50000 + 3085 * (j + 1)) (by omega) (by omega) ?_
    exact hK _ _ _ _ h g _ _ _ CL hd hl
  · replace h := iteF c9 h
    exact absurd (Option.some.inj h) (by decide)

set_option maxRecDepth 100000 in
set_option maxHeartbeats 4000000 in
theorem lc_12 {p : Program} {l : Launch} {e : Env} {s : State} {m : MethodId} {below : List Frame} {meth : Method} {c : Code} {g : Gp} {b L j F : Nat} {xs : Nat → Int32} {K : Kt} {σ τ : St} {ex : Nat → Bool} {β : Nat → St} {H : Heap} {locs : List Loc} {ls : Array Slot} (CL : LC g p s m b L xs meth c) (hL : L ≤ 3072) (hj : 6 * j + 6 ≤ L) (h : fL_12 F j xs K σ τ ex β = some 1)
    (hK : ∀ (σ τ : St) (ex : Nat → Bool) (β : Nat → St), K σ τ ex β = some 1 → ∀ (g : Gp) (H : Heap) (locs : List Loc) (ls : Array Slot), LC g p s m b L xs meth c → Dy g (wD g σ ++ (slW g ex β ++ wM g τ)) s H locs → lv_has ls 4 [(0, .ref b), (1, .ref (ga g 0)), (2, .ref (ga g 40)), (3, .int (nI (6 * j)))] → W p l e room_1 s m #[Value.ref b] below meth c H locs (100 + 17 * (j + 1)) (50000 + 3085 * (j + 1)) (lw_Z below #[Value.ref b] s) (F0 m 1863 ls []))
    (hd : Dy g (wD g σ ++ (slW g ex β ++ wM g τ)) s H locs) (hl : lv_has ls 4 [(0, .ref b), (1, .ref (ga g 0)), (2, .ref (ga g 40)), (3, .int (nI (6 * j)))]) : W p l e room_1 s m #[Value.ref b] below meth c H locs (100 + 17 * j) (50000 + 3085 * j) (lw_Z below #[Value.ref b] s) (F0 m 560 ls []) := by
  have C := CL.1
  have hx := C.1
  have hb := C.2.1
  have hE := C.2.2.2.2.2.2.2.2
  have hcs : 100 + 17 * j ≤ room_1.cells ∧ 50000 + 3085 * j ≤ room_1.slots := ⟨by show 100 + 17 * j ≤ 600000; omega, by show 50000 + 3085 * j ≤ 7302250; omega⟩
  rw [fL_12] at h
  refine lv_aload_n hx hb dL_law_560 rfl (lv_at hl 1 rfl) ?_
  refine lv_aload_n hx hb dL_law_561 rfl (lv_at hl 0 rfl) ?_
  refine lv_iload_n hx hb dL_law_562 rfl (lv_at hl 3 rfl) ?_
  refine lv_iconst (v := nI 1) hx hb dL_law_563 (by decide) ?_
  refine rScr (q := 1) CL hd hL hj (by decide) dL_law_564 dL_law_565 ?_
  obtain ⟨r1, σ1, er1, h⟩ := cal2_e h
  refine rCallI C hd (c_X7_drop hE er1) kL_67 0 rfl rfl rfl rfl hl.1 rfl (Nat.le_of_ble_eq_true rfl) ⟨(Nat.le_of_ble_eq_true rfl), (Nat.le_of_ble_eq_true rfl)⟩ hcs dL_law_566 (fun H locs hd => ?_)
  refine lv_aload_n hx hb dL_law_569 rfl (lv_at hl 2 rfl) ?_
  refine lv_aload_n hx hb dL_law_570 rfl (lv_at hl 0 rfl) ?_
  refine lv_iload_n hx hb dL_law_571 rfl (lv_at hl 3 rfl) ?_
  refine lv_iconst (v := nI 1) hx hb dL_law_572 (by decide) ?_
  refine rScr (q := 1) CL hd hL hj (by decide) dL_law_573 dL_law_574 ?_
  have hd : Dy g (wM g τ ++ (wD g σ1 ++ slW g ex β)) s _ _ := Dy.perm hd wl_perm
  obtain ⟨r2, τ1, er2, h⟩ := cal2_e h
  refine rCallI C hd (c_X8_drop hE er2) kL_70 0 rfl rfl rfl rfl hl.1 rfl (Nat.le_of_ble_eq_true rfl) ⟨(Nat.le_of_ble_eq_true rfl), (Nat.le_of_ble_eq_true rfl)⟩ hcs dL_law_575 (fun H locs hd => ?_)
  have hd : Dy g (wD g σ1 ++ (slW g ex β ++ wM g τ1)) s _ _ := Dy.perm hd wl_perm.symm
  refine lv_icmp_eq (tgt := 1863) hx hb dL_law_578 (by decide) (fun c9 => ?_) (fun c9 => ?_)
  · replace h := iteT c9 h
    refine W.widen (k := 100 + 17 * (j + 1)) (n := 50000 + 3085 * (j + 1)) (by omega) (by omega) ?_
    exact hK _ _ _ _ h g _ _ _ CL hd hl
  · replace h := iteF c9 h
    exact absurd (Option.some.inj h) (by decide)

set_option maxRecDepth 100000 in
set_option maxHeartbeats 4000000 in
theorem lc_13 {p : Program} {l : Launch} {e : Env} {s : State} {m : MethodId} {below : List Frame} {meth : Method} {c : Code} {g : Gp} {b L j F : Nat} {xs : Nat → Int32} {K : Kt} {σ τ : St} {ex : Nat → Bool} {β : Nat → St} {H : Heap} {locs : List Loc} {ls : Array Slot} (CL : LC g p s m b L xs meth c) (hL : L ≤ 3072) (hj : 6 * j + 6 ≤ L) (h : fL_13 F j xs K σ τ ex β = some 1)
    (hK : ∀ (σ τ : St) (ex : Nat → Bool) (β : Nat → St), K σ τ ex β = some 1 → ∀ (g : Gp) (H : Heap) (locs : List Loc) (ls : Array Slot), LC g p s m b L xs meth c → Dy g (wD g σ ++ (slW g ex β ++ wM g τ)) s H locs → lv_has ls 4 [(0, .ref b), (1, .ref (ga g 0)), (2, .ref (ga g 40)), (3, .int (nI (6 * j)))] → W p l e room_1 s m #[Value.ref b] below meth c H locs (100 + 17 * (j + 1)) (50000 + 3085 * (j + 1)) (lw_Z below #[Value.ref b] s) (F0 m 1863 ls []))
    (hd : Dy g (wD g σ ++ (slW g ex β ++ wM g τ)) s H locs) (hl : lv_has ls 4 [(0, .ref b), (1, .ref (ga g 0)), (2, .ref (ga g 40)), (3, .int (nI (6 * j)))]) : W p l e room_1 s m #[Value.ref b] below meth c H locs (100 + 17 * j) (50000 + 3085 * j) (lw_Z below #[Value.ref b] s) (F0 m 583 ls []) := by
  have C := CL.1
  have hx := C.1
  have hb := C.2.1
  have hE := C.2.2.2.2.2.2.2.2
  have hcs : 100 + 17 * j ≤ room_1.cells ∧ 50000 + 3085 * j ≤ room_1.slots := ⟨by show 100 + 17 * j ≤ 600000; omega, by show 50000 + 3085 * j ≤ 7302250; omega⟩
  rw [fL_13] at h
  refine lv_aload_n hx hb dL_law_583 rfl (lv_at hl 1 rfl) ?_
  refine lv_aload_n hx hb dL_law_584 rfl (lv_at hl 0 rfl) ?_
  refine lv_iload_n hx hb dL_law_585 rfl (lv_at hl 3 rfl) ?_
  refine lv_iconst (v := nI 1) hx hb dL_law_586 (by decide) ?_
  refine rScr (q := 1) CL hd hL hj (by decide) dL_law_587 dL_law_588 ?_
  refine lv_aload_n hx hb dL_law_589 rfl (lv_at hl 0 rfl) ?_
  refine lv_iload_n hx hb dL_law_590 rfl (lv_at hl 3 rfl) ?_
  refine lv_iconst (v := nI 2) hx hb dL_law_591 (by decide) ?_
  refine rScr (q := 2) CL hd hL hj (by decide) dL_law_592 dL_law_593 ?_
  refine lv_aload_n hx hb dL_law_594 rfl (lv_at hl 0 rfl) ?_
  refine lv_iload_n hx hb dL_law_595 rfl (lv_at hl 3 rfl) ?_
  refine lv_iconst (v := nI 3) hx hb dL_law_596 (by decide) ?_
  refine rScr (q := 3) CL hd hL hj (by decide) dL_law_597 dL_law_598 ?_
  obtain ⟨r1, σ1, er1, h⟩ := cal2_e h
  refine rCallI C hd (c_X7_restore hE er1) kL_71 0 rfl rfl rfl rfl hl.1 rfl (Nat.le_of_ble_eq_true rfl) ⟨(Nat.le_of_ble_eq_true rfl), (Nat.le_of_ble_eq_true rfl)⟩ hcs dL_law_599 (fun H locs hd => ?_)
  refine lv_aload_n hx hb dL_law_602 rfl (lv_at hl 2 rfl) ?_
  refine lv_aload_n hx hb dL_law_603 rfl (lv_at hl 0 rfl) ?_
  refine lv_iload_n hx hb dL_law_604 rfl (lv_at hl 3 rfl) ?_
  refine lv_iconst (v := nI 1) hx hb dL_law_605 (by decide) ?_
  refine rScr (q := 1) CL hd hL hj (by decide) dL_law_606 dL_law_607 ?_
  refine lv_aload_n hx hb dL_law_608 rfl (lv_at hl 0 rfl) ?_
  refine lv_iload_n hx hb dL_law_609 rfl (lv_at hl 3 rfl) ?_
  refine lv_iconst (v := nI 2) hx hb dL_law_610 (by decide) ?_
  refine rScr (q := 2) CL hd hL hj (by decide) dL_law_611 dL_law_612 ?_
  refine lv_aload_n hx hb dL_law_613 rfl (lv_at hl 0 rfl) ?_
  refine lv_iload_n hx hb dL_law_614 rfl (lv_at hl 3 rfl) ?_
  refine lv_iconst (v := nI 3) hx hb dL_law_615 (by decide) ?_
  refine rScr (q := 3) CL hd hL hj (by decide) dL_law_616 dL_law_617 ?_
  have hd : Dy g (wM g τ ++ (wD g σ1 ++ slW g ex β)) s _ _ := Dy.perm hd wl_perm
  obtain ⟨r2, τ1, er2, h⟩ := cal2_e h
  refine rCallI C hd (c_X8_restore hE er2) kL_75 0 rfl rfl rfl rfl hl.1 rfl (Nat.le_of_ble_eq_true rfl) ⟨(Nat.le_of_ble_eq_true rfl), (Nat.le_of_ble_eq_true rfl)⟩ hcs dL_law_618 (fun H locs hd => ?_)
  have hd : Dy g (wD g σ1 ++ (slW g ex β ++ wM g τ1)) s _ _ := Dy.perm hd wl_perm.symm
  refine lv_icmp_eq (tgt := 1863) hx hb dL_law_621 (by decide) (fun c9 => ?_) (fun c9 => ?_)
  · replace h := iteT c9 h
    refine W.widen (k := 100 + 17 * (j + 1)) (n := 50000 + 3085 * (j + 1)) (by omega) (by omega) ?_
    exact hK _ _ _ _ h g _ _ _ CL hd hl
  · replace h := iteF c9 h
    exact absurd (Option.some.inj h) (by decide)

set_option maxRecDepth 100000 in
set_option maxHeartbeats 4000000 in
theorem lc_14 {p : Program} {l : Launch} {e : Env} {s : State} {m : MethodId} {below : List Frame} {meth : Method} {c : Code} {g : Gp} {b L j F : Nat} {xs : Nat → Int32} {K : Kt} {σ τ : St} {ex : Nat → Bool} {β : Nat → St} {H : Heap} {locs : List Loc} {ls : Array Slot} (CL : LC g p s m b L xs meth c) (hL : L ≤ 3072) (hj : 6 * j + 6 ≤ L) (h : fL_14 F j xs K σ τ ex β = some 1)
    (hK : ∀ (σ τ : St) (ex : Nat → Bool) (β : Nat → St), K σ τ ex β = some 1 → ∀ (g : Gp) (H : Heap) (locs : List Loc) (ls : Array Slot), LC g p s m b L xs meth c → Dy g (wD g σ ++ (slW g ex β ++ wM g τ)) s H locs → lv_has ls 4 [(0, .ref b), (1, .ref (ga g 0)), (2, .ref (ga g 40)), (3, .int (nI (6 * j)))] → W p l e room_1 s m #[Value.ref b] below meth c H locs (100 + 17 * (j + 1)) (50000 + 3085 * (j + 1)) (lw_Z below #[Value.ref b] s) (F0 m 1863 ls []))
    (hd : Dy g (wD g σ ++ (slW g ex β ++ wM g τ)) s H locs) (hl : lv_has ls 4 [(0, .ref b), (1, .ref (ga g 0)), (2, .ref (ga g 40)), (3, .int (nI (6 * j)))]) : W p l e room_1 s m #[Value.ref b] below meth c H locs (100 + 17 * j) (50000 + 3085 * j) (lw_Z below #[Value.ref b] s) (F0 m 626 ls []) := by
  have C := CL.1
  have hx := C.1
  have hb := C.2.1
  have hE := C.2.2.2.2.2.2.2.2
  have hcs : 100 + 17 * j ≤ room_1.cells ∧ 50000 + 3085 * j ≤ room_1.slots := ⟨by show 100 + 17 * j ≤ 600000; omega, by show 50000 + 3085 * j ≤ 7302250; omega⟩
  rw [fL_14] at h
  refine lv_aload_n hx hb dL_law_626 rfl (lv_at hl 1 rfl) ?_
  refine lv_aload_n hx hb dL_law_627 rfl (lv_at hl 0 rfl) ?_
  refine lv_iload_n hx hb dL_law_628 rfl (lv_at hl 3 rfl) ?_
  refine lv_iconst (v := nI 1) hx hb dL_law_629 (by decide) ?_
  refine rScr (q := 1) CL hd hL hj (by decide) dL_law_630 dL_law_631 ?_
  refine lv_aload_n hx hb dL_law_632 rfl (lv_at hl 0 rfl) ?_
  refine lv_iload_n hx hb dL_law_633 rfl (lv_at hl 3 rfl) ?_
  refine lv_iconst (v := nI 2) hx hb dL_law_634 (by decide) ?_
  refine rScr (q := 2) CL hd hL hj (by decide) dL_law_635 dL_law_636 ?_
  obtain ⟨r1, σ1, er1, h⟩ := cal2_e h
  refine rCallI C hd (c_X7_lose hE er1) kL_76 0 rfl rfl rfl rfl hl.1 rfl (Nat.le_of_ble_eq_true rfl) ⟨(Nat.le_of_ble_eq_true rfl), (Nat.le_of_ble_eq_true rfl)⟩ hcs dL_law_637 (fun H locs hd => ?_)
  refine lv_aload_n hx hb dL_law_640 rfl (lv_at hl 2 rfl) ?_
  refine lv_aload_n hx hb dL_law_641 rfl (lv_at hl 0 rfl) ?_
  refine lv_iload_n hx hb dL_law_642 rfl (lv_at hl 3 rfl) ?_
  refine lv_iconst (v := nI 1) hx hb dL_law_643 (by decide) ?_
  refine rScr (q := 1) CL hd hL hj (by decide) dL_law_644 dL_law_645 ?_
  refine lv_aload_n hx hb dL_law_646 rfl (lv_at hl 0 rfl) ?_
  refine lv_iload_n hx hb dL_law_647 rfl (lv_at hl 3 rfl) ?_
  refine lv_iconst (v := nI 2) hx hb dL_law_648 (by decide) ?_
  refine rScr (q := 2) CL hd hL hj (by decide) dL_law_649 dL_law_650 ?_
  have hd : Dy g (wM g τ ++ (wD g σ1 ++ slW g ex β)) s _ _ := Dy.perm hd wl_perm
  obtain ⟨r2, τ1, er2, h⟩ := cal2_e h
  refine rCallI C hd (c_X8_lose hE er2) kL_79 0 rfl rfl rfl rfl hl.1 rfl (Nat.le_of_ble_eq_true rfl) ⟨(Nat.le_of_ble_eq_true rfl), (Nat.le_of_ble_eq_true rfl)⟩ hcs dL_law_651 (fun H locs hd => ?_)
  have hd : Dy g (wD g σ1 ++ (slW g ex β ++ wM g τ1)) s _ _ := Dy.perm hd wl_perm.symm
  refine lv_icmp_eq (tgt := 1863) hx hb dL_law_654 (by decide) (fun c9 => ?_) (fun c9 => ?_)
  · replace h := iteT c9 h
    refine W.widen (k := 100 + 17 * (j + 1)) (n := 50000 + 3085 * (j + 1)) (by omega) (by omega) ?_
    exact hK _ _ _ _ h g _ _ _ CL hd hl
  · replace h := iteF c9 h
    exact absurd (Option.some.inj h) (by decide)

set_option maxRecDepth 100000 in
set_option maxHeartbeats 4000000 in
theorem lc_15 {p : Program} {l : Launch} {e : Env} {s : State} {m : MethodId} {below : List Frame} {meth : Method} {c : Code} {g : Gp} {b L j F : Nat} {xs : Nat → Int32} {K : Kt} {σ τ : St} {ex : Nat → Bool} {β : Nat → St} {H : Heap} {locs : List Loc} {ls : Array Slot} (CL : LC g p s m b L xs meth c) (hL : L ≤ 3072) (hj : 6 * j + 6 ≤ L) (h : fL_15 F j xs K σ τ ex β = some 1)
    (hK : ∀ (σ τ : St) (ex : Nat → Bool) (β : Nat → St), K σ τ ex β = some 1 → ∀ (g : Gp) (H : Heap) (locs : List Loc) (ls : Array Slot), LC g p s m b L xs meth c → Dy g (wD g σ ++ (slW g ex β ++ wM g τ)) s H locs → lv_has ls 4 [(0, .ref b), (1, .ref (ga g 0)), (2, .ref (ga g 40)), (3, .int (nI (6 * j)))] → W p l e room_1 s m #[Value.ref b] below meth c H locs (100 + 17 * (j + 1)) (50000 + 3085 * (j + 1)) (lw_Z below #[Value.ref b] s) (F0 m 1863 ls []))
    (hd : Dy g (wD g σ ++ (slW g ex β ++ wM g τ)) s H locs) (hl : lv_has ls 4 [(0, .ref b), (1, .ref (ga g 0)), (2, .ref (ga g 40)), (3, .int (nI (6 * j)))]) : W p l e room_1 s m #[Value.ref b] below meth c H locs (100 + 17 * j) (50000 + 3085 * j) (lw_Z below #[Value.ref b] s) (F0 m 659 ls []) := by
  have C := CL.1
  have hx := C.1
  have hb := C.2.1
  have hE := C.2.2.2.2.2.2.2.2
  have hcs : 100 + 17 * j ≤ room_1.cells ∧ 50000 + 3085 * j ≤ room_1.slots := ⟨by show 100 + 17 * j ≤ 600000; omega, by show 50000 + 3085 * j ≤ 7302250; omega⟩
  rw [fL_15] at h
  refine lv_aload_n hx hb dL_law_659 rfl (lv_at hl 1 rfl) ?_
  refine lv_aload_n hx hb dL_law_660 rfl (lv_at hl 0 rfl) ?_
  refine lv_iload_n hx hb dL_law_661 rfl (lv_at hl 3 rfl) ?_
  refine lv_iconst (v := nI 1) hx hb dL_law_662 (by decide) ?_
  refine rScr (q := 1) CL hd hL hj (by decide) dL_law_663 dL_law_664 ?_
  refine lv_aload_n hx hb dL_law_665 rfl (lv_at hl 0 rfl) ?_
  refine lv_iload_n hx hb dL_law_666 rfl (lv_at hl 3 rfl) ?_
  refine lv_iconst (v := nI 2) hx hb dL_law_667 (by decide) ?_
  refine rScr (q := 2) CL hd hL hj (by decide) dL_law_668 dL_law_669 ?_
  refine lv_aload_n hx hb dL_law_670 rfl (lv_at hl 0 rfl) ?_
  refine lv_iload_n hx hb dL_law_671 rfl (lv_at hl 3 rfl) ?_
  refine lv_iconst (v := nI 3) hx hb dL_law_672 (by decide) ?_
  refine rScr (q := 3) CL hd hL hj (by decide) dL_law_673 dL_law_674 ?_
  suffices hq : W p l e room_1 s m #[Value.ref b] below meth c H locs (100 + 17 * j) (50000 + 3085 * j) (lw_Z below #[Value.ref b] s) (F0 m 683 ls [.int (bz (xs (6 * j + 3))), .int (xs (6 * j + 2)), .int (xs (6 * j + 1)), .ref (ga g 0)]) from by
    refine lv_if_eq (tgt := 682) hx hb dL_law_675 (by decide) (fun c1 => ?_) (fun c1 => ?_)
    · refine lv_iconst (v := 0) hx hb dL_law_682 (by decide) ?_
      exact rTop (show bz (xs (6 * j + 3)) = 0 from if_pos c1) hq
    · refine lv_iconst (v := 1) hx hb dL_law_678 (by decide) ?_
      refine lv_goto (tgt := 683) hx hb dL_law_679 (by decide) ?_
      exact rTop (show bz (xs (6 * j + 3)) = 1 from if_neg c1) hq
  obtain ⟨r1, σ1, er1, h⟩ := cal2_e h
  refine rCallI C hd (c_X7_twice hE er1) kL_80 0 rfl rfl rfl rfl hl.1 rfl (Nat.le_of_ble_eq_true rfl) ⟨(Nat.le_of_ble_eq_true rfl), (Nat.le_of_ble_eq_true rfl)⟩ hcs dL_law_683 (fun H locs hd => ?_)
  refine lv_aload_n hx hb dL_law_686 rfl (lv_at hl 2 rfl) ?_
  refine lv_aload_n hx hb dL_law_687 rfl (lv_at hl 0 rfl) ?_
  refine lv_iload_n hx hb dL_law_688 rfl (lv_at hl 3 rfl) ?_
  refine lv_iconst (v := nI 1) hx hb dL_law_689 (by decide) ?_
  refine rScr (q := 1) CL hd hL hj (by decide) dL_law_690 dL_law_691 ?_
  refine lv_aload_n hx hb dL_law_692 rfl (lv_at hl 0 rfl) ?_
  refine lv_iload_n hx hb dL_law_693 rfl (lv_at hl 3 rfl) ?_
  refine lv_iconst (v := nI 2) hx hb dL_law_694 (by decide) ?_
  refine rScr (q := 2) CL hd hL hj (by decide) dL_law_695 dL_law_696 ?_
  refine lv_aload_n hx hb dL_law_697 rfl (lv_at hl 0 rfl) ?_
  refine lv_iload_n hx hb dL_law_698 rfl (lv_at hl 3 rfl) ?_
  refine lv_iconst (v := nI 3) hx hb dL_law_699 (by decide) ?_
  refine rScr (q := 3) CL hd hL hj (by decide) dL_law_700 dL_law_701 ?_
  suffices hq : W p l e room_1 s m #[Value.ref b] below meth c H locs (100 + 17 * j) (50000 + 3085 * j) (lw_Z below #[Value.ref b] s) (F0 m 710 ls [.int (bz (xs (6 * j + 3))), .int (xs (6 * j + 2)), .int (xs (6 * j + 1)), .ref (ga g 40), .int r1]) from by
    refine lv_if_eq (tgt := 709) hx hb dL_law_702 (by decide) (fun c1 => ?_) (fun c1 => ?_)
    · refine lv_iconst (v := 0) hx hb dL_law_709 (by decide) ?_
      exact rTop (show bz (xs (6 * j + 3)) = 0 from if_pos c1) hq
    · refine lv_iconst (v := 1) hx hb dL_law_705 (by decide) ?_
      refine lv_goto (tgt := 710) hx hb dL_law_706 (by decide) ?_
      exact rTop (show bz (xs (6 * j + 3)) = 1 from if_neg c1) hq
  have hd : Dy g (wM g τ ++ (wD g σ1 ++ slW g ex β)) s _ _ := Dy.perm hd wl_perm
  obtain ⟨r2, τ1, er2, h⟩ := cal2_e h
  refine rCallI C hd (c_X8_twice hE er2) kL_84 0 rfl rfl rfl rfl hl.1 rfl (Nat.le_of_ble_eq_true rfl) ⟨(Nat.le_of_ble_eq_true rfl), (Nat.le_of_ble_eq_true rfl)⟩ hcs dL_law_710 (fun H locs hd => ?_)
  have hd : Dy g (wD g σ1 ++ (slW g ex β ++ wM g τ1)) s _ _ := Dy.perm hd wl_perm.symm
  refine lv_icmp_eq (tgt := 1863) hx hb dL_law_713 (by decide) (fun c9 => ?_) (fun c9 => ?_)
  · replace h := iteT c9 h
    refine W.widen (k := 100 + 17 * (j + 1)) (n := 50000 + 3085 * (j + 1)) (by omega) (by omega) ?_
    exact hK _ _ _ _ h g _ _ _ CL hd hl
  · replace h := iteF c9 h
    exact absurd (Option.some.inj h) (by decide)

set_option maxRecDepth 100000 in
set_option maxHeartbeats 4000000 in
theorem lc_16 {p : Program} {l : Launch} {e : Env} {s : State} {m : MethodId} {below : List Frame} {meth : Method} {c : Code} {g : Gp} {b L j F : Nat} {xs : Nat → Int32} {K : Kt} {σ τ : St} {ex : Nat → Bool} {β : Nat → St} {H : Heap} {locs : List Loc} {ls : Array Slot} (CL : LC g p s m b L xs meth c) (hL : L ≤ 3072) (hj : 6 * j + 6 ≤ L) (h : fL_16 F j xs K σ τ ex β = some 1)
    (hK : ∀ (σ τ : St) (ex : Nat → Bool) (β : Nat → St), K σ τ ex β = some 1 → ∀ (g : Gp) (H : Heap) (locs : List Loc) (ls : Array Slot), LC g p s m b L xs meth c → Dy g (wD g σ ++ (slW g ex β ++ wM g τ)) s H locs → lv_has ls 4 [(0, .ref b), (1, .ref (ga g 0)), (2, .ref (ga g 40)), (3, .int (nI (6 * j)))] → W p l e room_1 s m #[Value.ref b] below meth c H locs (100 + 17 * (j + 1)) (50000 + 3085 * (j + 1)) (lw_Z below #[Value.ref b] s) (F0 m 1863 ls []))
    (hd : Dy g (wD g σ ++ (slW g ex β ++ wM g τ)) s H locs) (hl : lv_has ls 4 [(0, .ref b), (1, .ref (ga g 0)), (2, .ref (ga g 40)), (3, .int (nI (6 * j)))]) : W p l e room_1 s m #[Value.ref b] below meth c H locs (100 + 17 * j) (50000 + 3085 * j) (lw_Z below #[Value.ref b] s) (F0 m 718 ls []) := by
  have C := CL.1
  have hx := C.1
  have hb := C.2.1
  have hE := C.2.2.2.2.2.2.2.2
  have hcs : 100 + 17 * j ≤ room_1.cells ∧ 50000 + 3085 * j ≤ room_1.slots := ⟨by show 100 + 17 * j ≤ 600000; omega, by show 50000 + 3085 * j ≤ 7302250; omega⟩
  rw [fL_16] at h
  refine lv_aload_n hx hb dL_law_718 rfl (lv_at hl 1 rfl) ?_
  refine lv_aload_n hx hb dL_law_719 rfl (lv_at hl 0 rfl) ?_
  refine lv_iload_n hx hb dL_law_720 rfl (lv_at hl 3 rfl) ?_
  refine lv_iconst (v := nI 1) hx hb dL_law_721 (by decide) ?_
  refine rScr (q := 1) CL hd hL hj (by decide) dL_law_722 dL_law_723 ?_
  refine lv_aload_n hx hb dL_law_724 rfl (lv_at hl 0 rfl) ?_
  refine lv_iload_n hx hb dL_law_725 rfl (lv_at hl 3 rfl) ?_
  refine lv_iconst (v := nI 2) hx hb dL_law_726 (by decide) ?_
  refine rScr (q := 2) CL hd hL hj (by decide) dL_law_727 dL_law_728 ?_
  refine lv_aload_n hx hb dL_law_729 rfl (lv_at hl 0 rfl) ?_
  refine lv_iload_n hx hb dL_law_730 rfl (lv_at hl 3 rfl) ?_
  refine lv_iconst (v := nI 3) hx hb dL_law_731 (by decide) ?_
  refine rScr (q := 3) CL hd hL hj (by decide) dL_law_732 dL_law_733 ?_
  obtain ⟨r1, er1, h⟩ := cal_e h
  refine rCallI C hd (c_X7_page hE er1) kL_85 0 rfl rfl rfl rfl hl.1 rfl (Nat.le_of_ble_eq_true rfl) ⟨(Nat.le_of_ble_eq_true rfl), (Nat.le_of_ble_eq_true rfl)⟩ hcs dL_law_734 (fun H locs hd => ?_)
  refine lv_aload_n hx hb dL_law_737 rfl (lv_at hl 2 rfl) ?_
  refine lv_aload_n hx hb dL_law_738 rfl (lv_at hl 0 rfl) ?_
  refine lv_iload_n hx hb dL_law_739 rfl (lv_at hl 3 rfl) ?_
  refine lv_iconst (v := nI 1) hx hb dL_law_740 (by decide) ?_
  refine rScr (q := 1) CL hd hL hj (by decide) dL_law_741 dL_law_742 ?_
  refine lv_aload_n hx hb dL_law_743 rfl (lv_at hl 0 rfl) ?_
  refine lv_iload_n hx hb dL_law_744 rfl (lv_at hl 3 rfl) ?_
  refine lv_iconst (v := nI 2) hx hb dL_law_745 (by decide) ?_
  refine rScr (q := 2) CL hd hL hj (by decide) dL_law_746 dL_law_747 ?_
  refine lv_aload_n hx hb dL_law_748 rfl (lv_at hl 0 rfl) ?_
  refine lv_iload_n hx hb dL_law_749 rfl (lv_at hl 3 rfl) ?_
  refine lv_iconst (v := nI 3) hx hb dL_law_750 (by decide) ?_
  refine rScr (q := 3) CL hd hL hj (by decide) dL_law_751 dL_law_752 ?_
  have hd : Dy g (wM g τ ++ (wD g σ ++ slW g ex β)) s _ _ := Dy.perm hd wl_perm
  obtain ⟨r2, er2, h⟩ := cal_e h
  refine rCallI C hd (c_X8_page hE er2) kL_88 0 rfl rfl rfl rfl hl.1 rfl (Nat.le_of_ble_eq_true rfl) ⟨(Nat.le_of_ble_eq_true rfl), (Nat.le_of_ble_eq_true rfl)⟩ hcs dL_law_753 (fun H locs hd => ?_)
  have hd : Dy g (wD g σ ++ (slW g ex β ++ wM g τ)) s _ _ := Dy.perm hd wl_perm.symm
  refine lv_icmp_eq (tgt := 1863) hx hb dL_law_756 (by decide) (fun c9 => ?_) (fun c9 => ?_)
  · replace h := iteT c9 h
    refine W.widen (k := 100 + 17 * (j + 1)) (n := 50000 + 3085 * (j + 1)) (by omega) (by omega) ?_
    exact hK _ _ _ _ h g _ _ _ CL hd hl
  · replace h := iteF c9 h
    exact absurd (Option.some.inj h) (by decide)

set_option maxRecDepth 100000 in
set_option maxHeartbeats 4000000 in
theorem lc_17 {p : Program} {l : Launch} {e : Env} {s : State} {m : MethodId} {below : List Frame} {meth : Method} {c : Code} {g : Gp} {b L j F : Nat} {xs : Nat → Int32} {K : Kt} {σ τ : St} {ex : Nat → Bool} {β : Nat → St} {H : Heap} {locs : List Loc} {ls : Array Slot} (CL : LC g p s m b L xs meth c) (hL : L ≤ 3072) (hj : 6 * j + 6 ≤ L) (h : fL_17 F j xs K σ τ ex β = some 1)
    (hK : ∀ (σ τ : St) (ex : Nat → Bool) (β : Nat → St), K σ τ ex β = some 1 → ∀ (g : Gp) (H : Heap) (locs : List Loc) (ls : Array Slot), LC g p s m b L xs meth c → Dy g (wD g σ ++ (slW g ex β ++ wM g τ)) s H locs → lv_has ls 4 [(0, .ref b), (1, .ref (ga g 0)), (2, .ref (ga g 40)), (3, .int (nI (6 * j)))] → W p l e room_1 s m #[Value.ref b] below meth c H locs (100 + 17 * (j + 1)) (50000 + 3085 * (j + 1)) (lw_Z below #[Value.ref b] s) (F0 m 1863 ls []))
    (hd : Dy g (wD g σ ++ (slW g ex β ++ wM g τ)) s H locs) (hl : lv_has ls 4 [(0, .ref b), (1, .ref (ga g 0)), (2, .ref (ga g 40)), (3, .int (nI (6 * j)))]) : W p l e room_1 s m #[Value.ref b] below meth c H locs (100 + 17 * j) (50000 + 3085 * j) (lw_Z below #[Value.ref b] s) (F0 m 761 ls []) := by
  have C := CL.1
  have hx := C.1
  have hb := C.2.1
  have hE := C.2.2.2.2.2.2.2.2
  have hcs : 100 + 17 * j ≤ room_1.cells ∧ 50000 + 3085 * j ≤ room_1.slots := ⟨by show 100 + 17 * j ≤ 600000; omega, by show 50000 + 3085 * j ≤ 7302250; omega⟩
  rw [fL_17] at h
  refine lv_aload_n hx hb dL_law_761 rfl (lv_at hl 1 rfl) ?_
  refine lv_aload_n hx hb dL_law_762 rfl (lv_at hl 0 rfl) ?_
  refine lv_iload_n hx hb dL_law_763 rfl (lv_at hl 3 rfl) ?_
  refine lv_iconst (v := nI 1) hx hb dL_law_764 (by decide) ?_
  refine rScr (q := 1) CL hd hL hj (by decide) dL_law_765 dL_law_766 ?_
  refine lv_aload_n hx hb dL_law_767 rfl (lv_at hl 0 rfl) ?_
  refine lv_iload_n hx hb dL_law_768 rfl (lv_at hl 3 rfl) ?_
  refine lv_iconst (v := nI 2) hx hb dL_law_769 (by decide) ?_
  refine rScr (q := 2) CL hd hL hj (by decide) dL_law_770 dL_law_771 ?_
  refine lv_aload_n hx hb dL_law_772 rfl (lv_at hl 0 rfl) ?_
  refine lv_iload_n hx hb dL_law_773 rfl (lv_at hl 3 rfl) ?_
  refine lv_iconst (v := nI 3) hx hb dL_law_774 (by decide) ?_
  refine rScr (q := 3) CL hd hL hj (by decide) dL_law_775 dL_law_776 ?_
  obtain ⟨r1, er1, h⟩ := cal_e h
  refine rCallI C hd (c_X7_record hE er1) kL_89 0 rfl rfl rfl rfl hl.1 rfl (Nat.le_of_ble_eq_true rfl) ⟨(Nat.le_of_ble_eq_true rfl), (Nat.le_of_ble_eq_true rfl)⟩ hcs dL_law_777 (fun H locs hd => ?_)
  refine lv_aload_n hx hb dL_law_780 rfl (lv_at hl 2 rfl) ?_
  refine lv_aload_n hx hb dL_law_781 rfl (lv_at hl 0 rfl) ?_
  refine lv_iload_n hx hb dL_law_782 rfl (lv_at hl 3 rfl) ?_
  refine lv_iconst (v := nI 1) hx hb dL_law_783 (by decide) ?_
  refine rScr (q := 1) CL hd hL hj (by decide) dL_law_784 dL_law_785 ?_
  refine lv_aload_n hx hb dL_law_786 rfl (lv_at hl 0 rfl) ?_
  refine lv_iload_n hx hb dL_law_787 rfl (lv_at hl 3 rfl) ?_
  refine lv_iconst (v := nI 2) hx hb dL_law_788 (by decide) ?_
  refine rScr (q := 2) CL hd hL hj (by decide) dL_law_789 dL_law_790 ?_
  refine lv_aload_n hx hb dL_law_791 rfl (lv_at hl 0 rfl) ?_
  refine lv_iload_n hx hb dL_law_792 rfl (lv_at hl 3 rfl) ?_
  refine lv_iconst (v := nI 3) hx hb dL_law_793 (by decide) ?_
  refine rScr (q := 3) CL hd hL hj (by decide) dL_law_794 dL_law_795 ?_
  have hd : Dy g (wM g τ ++ (wD g σ ++ slW g ex β)) s _ _ := Dy.perm hd wl_perm
  obtain ⟨r2, er2, h⟩ := cal_e h
  refine rCallI C hd (c_X8_record hE er2) kL_92 0 rfl rfl rfl rfl hl.1 rfl (Nat.le_of_ble_eq_true rfl) ⟨(Nat.le_of_ble_eq_true rfl), (Nat.le_of_ble_eq_true rfl)⟩ hcs dL_law_796 (fun H locs hd => ?_)
  have hd : Dy g (wD g σ ++ (slW g ex β ++ wM g τ)) s _ _ := Dy.perm hd wl_perm.symm
  refine lv_icmp_eq (tgt := 1863) hx hb dL_law_799 (by decide) (fun c9 => ?_) (fun c9 => ?_)
  · replace h := iteT c9 h
    refine W.widen (k := 100 + 17 * (j + 1)) (n := 50000 + 3085 * (j + 1)) (by omega) (by omega) ?_
    exact hK _ _ _ _ h g _ _ _ CL hd hl
  · replace h := iteF c9 h
    exact absurd (Option.some.inj h) (by decide)

set_option maxRecDepth 100000 in
set_option maxHeartbeats 4000000 in
theorem lc_18 {p : Program} {l : Launch} {e : Env} {s : State} {m : MethodId} {below : List Frame} {meth : Method} {c : Code} {g : Gp} {b L j F : Nat} {xs : Nat → Int32} {K : Kt} {σ τ : St} {ex : Nat → Bool} {β : Nat → St} {H : Heap} {locs : List Loc} {ls : Array Slot} (CL : LC g p s m b L xs meth c) (hL : L ≤ 3072) (hj : 6 * j + 6 ≤ L) (h : fL_18 F j xs K σ τ ex β = some 1)
    (hK : ∀ (σ τ : St) (ex : Nat → Bool) (β : Nat → St), K σ τ ex β = some 1 → ∀ (g : Gp) (H : Heap) (locs : List Loc) (ls : Array Slot), LC g p s m b L xs meth c → Dy g (wD g σ ++ (slW g ex β ++ wM g τ)) s H locs → lv_has ls 4 [(0, .ref b), (1, .ref (ga g 0)), (2, .ref (ga g 40)), (3, .int (nI (6 * j)))] → W p l e room_1 s m #[Value.ref b] below meth c H locs (100 + 17 * (j + 1)) (50000 + 3085 * (j + 1)) (lw_Z below #[Value.ref b] s) (F0 m 1863 ls []))
    (hd : Dy g (wD g σ ++ (slW g ex β ++ wM g τ)) s H locs) (hl : lv_has ls 4 [(0, .ref b), (1, .ref (ga g 0)), (2, .ref (ga g 40)), (3, .int (nI (6 * j)))]) : W p l e room_1 s m #[Value.ref b] below meth c H locs (100 + 17 * j) (50000 + 3085 * j) (lw_Z below #[Value.ref b] s) (F0 m 804 ls []) := by
  have C := CL.1
  have hx := C.1
  have hb := C.2.1
  have hE := C.2.2.2.2.2.2.2.2
  have hcs : 100 + 17 * j ≤ room_1.cells ∧ 50000 + 3085 * j ≤ room_1.slots := ⟨by show 100 + 17 * j ≤ 600000; omega, by show 50000 + 3085 * j ≤ 7302250; omega⟩
  rw [fL_18] at h
  refine lv_aload_n hx hb dL_law_804 rfl (lv_at hl 1 rfl) ?_
  refine lv_aload_n hx hb dL_law_805 rfl (lv_at hl 0 rfl) ?_
  refine lv_iload_n hx hb dL_law_806 rfl (lv_at hl 3 rfl) ?_
  refine lv_iconst (v := nI 1) hx hb dL_law_807 (by decide) ?_
  refine rScr (q := 1) CL hd hL hj (by decide) dL_law_808 dL_law_809 ?_
  refine lv_aload_n hx hb dL_law_810 rfl (lv_at hl 0 rfl) ?_
  refine lv_iload_n hx hb dL_law_811 rfl (lv_at hl 3 rfl) ?_
  refine lv_iconst (v := nI 2) hx hb dL_law_812 (by decide) ?_
  refine rScr (q := 2) CL hd hL hj (by decide) dL_law_813 dL_law_814 ?_
  obtain ⟨r1, er1, h⟩ := cal_e h
  refine rCallI C hd (c_X7_value hE er1) kL_93 0 rfl rfl rfl rfl hl.1 rfl (Nat.le_of_ble_eq_true rfl) ⟨(Nat.le_of_ble_eq_true rfl), (Nat.le_of_ble_eq_true rfl)⟩ hcs dL_law_815 (fun H locs hd => ?_)
  refine lv_aload_n hx hb dL_law_818 rfl (lv_at hl 2 rfl) ?_
  refine lv_aload_n hx hb dL_law_819 rfl (lv_at hl 0 rfl) ?_
  refine lv_iload_n hx hb dL_law_820 rfl (lv_at hl 3 rfl) ?_
  refine lv_iconst (v := nI 1) hx hb dL_law_821 (by decide) ?_
  refine rScr (q := 1) CL hd hL hj (by decide) dL_law_822 dL_law_823 ?_
  refine lv_aload_n hx hb dL_law_824 rfl (lv_at hl 0 rfl) ?_
  refine lv_iload_n hx hb dL_law_825 rfl (lv_at hl 3 rfl) ?_
  refine lv_iconst (v := nI 2) hx hb dL_law_826 (by decide) ?_
  refine rScr (q := 2) CL hd hL hj (by decide) dL_law_827 dL_law_828 ?_
  have hd : Dy g (wM g τ ++ (wD g σ ++ slW g ex β)) s _ _ := Dy.perm hd wl_perm
  obtain ⟨r2, er2, h⟩ := cal_e h
  refine rCallI C hd (c_X8_value hE er2) kL_96 0 rfl rfl rfl rfl hl.1 rfl (Nat.le_of_ble_eq_true rfl) ⟨(Nat.le_of_ble_eq_true rfl), (Nat.le_of_ble_eq_true rfl)⟩ hcs dL_law_829 (fun H locs hd => ?_)
  have hd : Dy g (wD g σ ++ (slW g ex β ++ wM g τ)) s _ _ := Dy.perm hd wl_perm.symm
  refine lv_icmp_eq (tgt := 1863) hx hb dL_law_832 (by decide) (fun c9 => ?_) (fun c9 => ?_)
  · replace h := iteT c9 h
    refine W.widen (k := 100 + 17 * (j + 1)) (n := 50000 + 3085 * (j + 1)) (by omega) (by omega) ?_
    exact hK _ _ _ _ h g _ _ _ CL hd hl
  · replace h := iteF c9 h
    exact absurd (Option.some.inj h) (by decide)

set_option maxRecDepth 100000 in
set_option maxHeartbeats 4000000 in
theorem lc_19 {p : Program} {l : Launch} {e : Env} {s : State} {m : MethodId} {below : List Frame} {meth : Method} {c : Code} {g : Gp} {b L j F : Nat} {xs : Nat → Int32} {K : Kt} {σ τ : St} {ex : Nat → Bool} {β : Nat → St} {H : Heap} {locs : List Loc} {ls : Array Slot} (CL : LC g p s m b L xs meth c) (hL : L ≤ 3072) (hj : 6 * j + 6 ≤ L) (h : fL_19 F j xs K σ τ ex β = some 1)
    (hK : ∀ (σ τ : St) (ex : Nat → Bool) (β : Nat → St), K σ τ ex β = some 1 → ∀ (g : Gp) (H : Heap) (locs : List Loc) (ls : Array Slot), LC g p s m b L xs meth c → Dy g (wD g σ ++ (slW g ex β ++ wM g τ)) s H locs → lv_has ls 4 [(0, .ref b), (1, .ref (ga g 0)), (2, .ref (ga g 40)), (3, .int (nI (6 * j)))] → W p l e room_1 s m #[Value.ref b] below meth c H locs (100 + 17 * (j + 1)) (50000 + 3085 * (j + 1)) (lw_Z below #[Value.ref b] s) (F0 m 1863 ls []))
    (hd : Dy g (wD g σ ++ (slW g ex β ++ wM g τ)) s H locs) (hl : lv_has ls 4 [(0, .ref b), (1, .ref (ga g 0)), (2, .ref (ga g 40)), (3, .int (nI (6 * j)))]) : W p l e room_1 s m #[Value.ref b] below meth c H locs (100 + 17 * j) (50000 + 3085 * j) (lw_Z below #[Value.ref b] s) (F0 m 837 ls []) := by
  have C := CL.1
  have hx := C.1
  have hb := C.2.1
  have hE := C.2.2.2.2.2.2.2.2
  have hcs : 100 + 17 * j ≤ room_1.cells ∧ 50000 + 3085 * j ≤ room_1.slots := ⟨by show 100 + 17 * j ≤ 600000; omega, by show 50000 + 3085 * j ≤ 7302250; omega⟩
  rw [fL_19] at h
  refine lv_aload_n hx hb dL_law_837 rfl (lv_at hl 1 rfl) ?_
  refine lv_aload_n hx hb dL_law_838 rfl (lv_at hl 0 rfl) ?_
  refine lv_iload_n hx hb dL_law_839 rfl (lv_at hl 3 rfl) ?_
  refine lv_iconst (v := nI 1) hx hb dL_law_840 (by decide) ?_
  refine rScr (q := 1) CL hd hL hj (by decide) dL_law_841 dL_law_842 ?_
  refine lv_aload_n hx hb dL_law_843 rfl (lv_at hl 0 rfl) ?_
  refine lv_iload_n hx hb dL_law_844 rfl (lv_at hl 3 rfl) ?_
  refine lv_iconst (v := nI 2) hx hb dL_law_845 (by decide) ?_
  refine rScr (q := 2) CL hd hL hj (by decide) dL_law_846 dL_law_847 ?_
  obtain ⟨r1, er1, h⟩ := cal_e h
  refine rCallI C hd (c_X7_line hE er1) kL_97 0 rfl rfl rfl rfl hl.1 rfl (Nat.le_of_ble_eq_true rfl) ⟨(Nat.le_of_ble_eq_true rfl), (Nat.le_of_ble_eq_true rfl)⟩ hcs dL_law_848 (fun H locs hd => ?_)
  refine lv_aload_n hx hb dL_law_851 rfl (lv_at hl 2 rfl) ?_
  refine lv_aload_n hx hb dL_law_852 rfl (lv_at hl 0 rfl) ?_
  refine lv_iload_n hx hb dL_law_853 rfl (lv_at hl 3 rfl) ?_
  refine lv_iconst (v := nI 1) hx hb dL_law_854 (by decide) ?_
  refine rScr (q := 1) CL hd hL hj (by decide) dL_law_855 dL_law_856 ?_
  refine lv_aload_n hx hb dL_law_857 rfl (lv_at hl 0 rfl) ?_
  refine lv_iload_n hx hb dL_law_858 rfl (lv_at hl 3 rfl) ?_
  refine lv_iconst (v := nI 2) hx hb dL_law_859 (by decide) ?_
  refine rScr (q := 2) CL hd hL hj (by decide) dL_law_860 dL_law_861 ?_
  have hd : Dy g (wM g τ ++ (wD g σ ++ slW g ex β)) s _ _ := Dy.perm hd wl_perm
  obtain ⟨r2, er2, h⟩ := cal_e h
  refine rCallI C hd (c_X8_line hE er2) kL_100 0 rfl rfl rfl rfl hl.1 rfl (Nat.le_of_ble_eq_true rfl) ⟨(Nat.le_of_ble_eq_true rfl), (Nat.le_of_ble_eq_true rfl)⟩ hcs dL_law_862 (fun H locs hd => ?_)
  have hd : Dy g (wD g σ ++ (slW g ex β ++ wM g τ)) s _ _ := Dy.perm hd wl_perm.symm
  refine lv_icmp_eq (tgt := 1863) hx hb dL_law_865 (by decide) (fun c9 => ?_) (fun c9 => ?_)
  · replace h := iteT c9 h
    refine W.widen (k := 100 + 17 * (j + 1)) (n := 50000 + 3085 * (j + 1)) (by omega) (by omega) ?_
    exact hK _ _ _ _ h g _ _ _ CL hd hl
  · replace h := iteF c9 h
    exact absurd (Option.some.inj h) (by decide)

set_option maxRecDepth 100000 in
set_option maxHeartbeats 4000000 in
theorem lc_20 {p : Program} {l : Launch} {e : Env} {s : State} {m : MethodId} {below : List Frame} {meth : Method} {c : Code} {g : Gp} {b L j F : Nat} {xs : Nat → Int32} {K : Kt} {σ τ : St} {ex : Nat → Bool} {β : Nat → St} {H : Heap} {locs : List Loc} {ls : Array Slot} (CL : LC g p s m b L xs meth c) (hL : L ≤ 3072) (hj : 6 * j + 6 ≤ L) (h : fL_20 F j xs K σ τ ex β = some 1)
    (hK : ∀ (σ τ : St) (ex : Nat → Bool) (β : Nat → St), K σ τ ex β = some 1 → ∀ (g : Gp) (H : Heap) (locs : List Loc) (ls : Array Slot), LC g p s m b L xs meth c → Dy g (wD g σ ++ (slW g ex β ++ wM g τ)) s H locs → lv_has ls 4 [(0, .ref b), (1, .ref (ga g 0)), (2, .ref (ga g 40)), (3, .int (nI (6 * j)))] → W p l e room_1 s m #[Value.ref b] below meth c H locs (100 + 17 * (j + 1)) (50000 + 3085 * (j + 1)) (lw_Z below #[Value.ref b] s) (F0 m 1863 ls []))
    (hd : Dy g (wD g σ ++ (slW g ex β ++ wM g τ)) s H locs) (hl : lv_has ls 4 [(0, .ref b), (1, .ref (ga g 0)), (2, .ref (ga g 40)), (3, .int (nI (6 * j)))]) : W p l e room_1 s m #[Value.ref b] below meth c H locs (100 + 17 * j) (50000 + 3085 * j) (lw_Z below #[Value.ref b] s) (F0 m 870 ls []) := by
  have C := CL.1
  have hx := C.1
  have hb := C.2.1
  have hE := C.2.2.2.2.2.2.2.2
  have hcs : 100 + 17 * j ≤ room_1.cells ∧ 50000 + 3085 * j ≤ room_1.slots := ⟨by show 100 + 17 * j ≤ 600000; omega, by show 50000 + 3085 * j ≤ 7302250; omega⟩
  rw [fL_20] at h
  refine lv_aload_n hx hb dL_law_870 rfl (lv_at hl 1 rfl) ?_
  refine lv_aload_n hx hb dL_law_871 rfl (lv_at hl 0 rfl) ?_
  refine lv_iload_n hx hb dL_law_872 rfl (lv_at hl 3 rfl) ?_
  refine lv_iconst (v := nI 1) hx hb dL_law_873 (by decide) ?_
  refine rScr (q := 1) CL hd hL hj (by decide) dL_law_874 dL_law_875 ?_
  refine lv_aload_n hx hb dL_law_876 rfl (lv_at hl 0 rfl) ?_
  refine lv_iload_n hx hb dL_law_877 rfl (lv_at hl 3 rfl) ?_
  refine lv_iconst (v := nI 2) hx hb dL_law_878 (by decide) ?_
  refine rScr (q := 2) CL hd hL hj (by decide) dL_law_879 dL_law_880 ?_
  obtain ⟨r1, er1, h⟩ := cal_e h
  refine rCallI C hd (c_X7_piece hE er1) kL_101 0 rfl rfl rfl rfl hl.1 rfl (Nat.le_of_ble_eq_true rfl) ⟨(Nat.le_of_ble_eq_true rfl), (Nat.le_of_ble_eq_true rfl)⟩ hcs dL_law_881 (fun H locs hd => ?_)
  refine lv_aload_n hx hb dL_law_884 rfl (lv_at hl 2 rfl) ?_
  refine lv_aload_n hx hb dL_law_885 rfl (lv_at hl 0 rfl) ?_
  refine lv_iload_n hx hb dL_law_886 rfl (lv_at hl 3 rfl) ?_
  refine lv_iconst (v := nI 1) hx hb dL_law_887 (by decide) ?_
  refine rScr (q := 1) CL hd hL hj (by decide) dL_law_888 dL_law_889 ?_
  refine lv_aload_n hx hb dL_law_890 rfl (lv_at hl 0 rfl) ?_
  refine lv_iload_n hx hb dL_law_891 rfl (lv_at hl 3 rfl) ?_
  refine lv_iconst (v := nI 2) hx hb dL_law_892 (by decide) ?_
  refine rScr (q := 2) CL hd hL hj (by decide) dL_law_893 dL_law_894 ?_
  have hd : Dy g (wM g τ ++ (wD g σ ++ slW g ex β)) s _ _ := Dy.perm hd wl_perm
  obtain ⟨r2, er2, h⟩ := cal_e h
  refine rCallI C hd (c_X8_piece hE er2) kL_104 0 rfl rfl rfl rfl hl.1 rfl (Nat.le_of_ble_eq_true rfl) ⟨(Nat.le_of_ble_eq_true rfl), (Nat.le_of_ble_eq_true rfl)⟩ hcs dL_law_895 (fun H locs hd => ?_)
  have hd : Dy g (wD g σ ++ (slW g ex β ++ wM g τ)) s _ _ := Dy.perm hd wl_perm.symm
  refine lv_icmp_eq (tgt := 1863) hx hb dL_law_898 (by decide) (fun c9 => ?_) (fun c9 => ?_)
  · replace h := iteT c9 h
    refine W.widen (k := 100 + 17 * (j + 1)) (n := 50000 + 3085 * (j + 1)) (by omega) (by omega) ?_
    exact hK _ _ _ _ h g _ _ _ CL hd hl
  · replace h := iteF c9 h
    exact absurd (Option.some.inj h) (by decide)

set_option maxRecDepth 100000 in
set_option maxHeartbeats 4000000 in
theorem lc_21 {p : Program} {l : Launch} {e : Env} {s : State} {m : MethodId} {below : List Frame} {meth : Method} {c : Code} {g : Gp} {b L j F : Nat} {xs : Nat → Int32} {K : Kt} {σ τ : St} {ex : Nat → Bool} {β : Nat → St} {H : Heap} {locs : List Loc} {ls : Array Slot} (CL : LC g p s m b L xs meth c) (hL : L ≤ 3072) (hj : 6 * j + 6 ≤ L) (h : fL_21 F j xs K σ τ ex β = some 1)
    (hK : ∀ (σ τ : St) (ex : Nat → Bool) (β : Nat → St), K σ τ ex β = some 1 → ∀ (g : Gp) (H : Heap) (locs : List Loc) (ls : Array Slot), LC g p s m b L xs meth c → Dy g (wD g σ ++ (slW g ex β ++ wM g τ)) s H locs → lv_has ls 4 [(0, .ref b), (1, .ref (ga g 0)), (2, .ref (ga g 40)), (3, .int (nI (6 * j)))] → W p l e room_1 s m #[Value.ref b] below meth c H locs (100 + 17 * (j + 1)) (50000 + 3085 * (j + 1)) (lw_Z below #[Value.ref b] s) (F0 m 1863 ls []))
    (hd : Dy g (wD g σ ++ (slW g ex β ++ wM g τ)) s H locs) (hl : lv_has ls 4 [(0, .ref b), (1, .ref (ga g 0)), (2, .ref (ga g 40)), (3, .int (nI (6 * j)))]) : W p l e room_1 s m #[Value.ref b] below meth c H locs (100 + 17 * j) (50000 + 3085 * j) (lw_Z below #[Value.ref b] s) (F0 m 903 ls []) := by
  have C := CL.1
  have hx := C.1
  have hb := C.2.1
  have hE := C.2.2.2.2.2.2.2.2
  have hcs : 100 + 17 * j ≤ room_1.cells ∧ 50000 + 3085 * j ≤ room_1.slots := ⟨by show 100 + 17 * j ≤ 600000; omega, by show 50000 + 3085 * j ≤ 7302250; omega⟩
  rw [fL_21] at h
  refine lv_aload_n hx hb dL_law_903 rfl (lv_at hl 1 rfl) ?_
  refine lv_aload_n hx hb dL_law_904 rfl (lv_at hl 0 rfl) ?_
  refine lv_iload_n hx hb dL_law_905 rfl (lv_at hl 3 rfl) ?_
  refine lv_iconst (v := nI 1) hx hb dL_law_906 (by decide) ?_
  refine rScr (q := 1) CL hd hL hj (by decide) dL_law_907 dL_law_908 ?_
  refine lv_aload_n hx hb dL_law_909 rfl (lv_at hl 0 rfl) ?_
  refine lv_iload_n hx hb dL_law_910 rfl (lv_at hl 3 rfl) ?_
  refine lv_iconst (v := nI 2) hx hb dL_law_911 (by decide) ?_
  refine rScr (q := 2) CL hd hL hj (by decide) dL_law_912 dL_law_913 ?_
  obtain ⟨r1, er1, h⟩ := cal_e h
  refine rCallI C hd (c_X7_made hE er1) kL_105 0 rfl rfl rfl rfl hl.1 rfl (Nat.le_of_ble_eq_true rfl) ⟨(Nat.le_of_ble_eq_true rfl), (Nat.le_of_ble_eq_true rfl)⟩ hcs dL_law_914 (fun H locs hd => ?_)
  refine lv_aload_n hx hb dL_law_917 rfl (lv_at hl 2 rfl) ?_
  refine lv_aload_n hx hb dL_law_918 rfl (lv_at hl 0 rfl) ?_
  refine lv_iload_n hx hb dL_law_919 rfl (lv_at hl 3 rfl) ?_
  refine lv_iconst (v := nI 1) hx hb dL_law_920 (by decide) ?_
  refine rScr (q := 1) CL hd hL hj (by decide) dL_law_921 dL_law_922 ?_
  refine lv_aload_n hx hb dL_law_923 rfl (lv_at hl 0 rfl) ?_
  refine lv_iload_n hx hb dL_law_924 rfl (lv_at hl 3 rfl) ?_
  refine lv_iconst (v := nI 2) hx hb dL_law_925 (by decide) ?_
  refine rScr (q := 2) CL hd hL hj (by decide) dL_law_926 dL_law_927 ?_
  have hd : Dy g (wM g τ ++ (wD g σ ++ slW g ex β)) s _ _ := Dy.perm hd wl_perm
  obtain ⟨r2, er2, h⟩ := cal_e h
  refine rCallI C hd (c_X8_made hE er2) kL_108 0 rfl rfl rfl rfl hl.1 rfl (Nat.le_of_ble_eq_true rfl) ⟨(Nat.le_of_ble_eq_true rfl), (Nat.le_of_ble_eq_true rfl)⟩ hcs dL_law_928 (fun H locs hd => ?_)
  have hd : Dy g (wD g σ ++ (slW g ex β ++ wM g τ)) s _ _ := Dy.perm hd wl_perm.symm
  refine lv_icmp_eq (tgt := 1863) hx hb dL_law_931 (by decide) (fun c9 => ?_) (fun c9 => ?_)
  · replace h := iteT c9 h
    refine W.widen (k := 100 + 17 * (j + 1)) (n := 50000 + 3085 * (j + 1)) (by omega) (by omega) ?_
    exact hK _ _ _ _ h g _ _ _ CL hd hl
  · replace h := iteF c9 h
    exact absurd (Option.some.inj h) (by decide)

set_option maxRecDepth 100000 in
set_option maxHeartbeats 4000000 in
theorem lc_22 {p : Program} {l : Launch} {e : Env} {s : State} {m : MethodId} {below : List Frame} {meth : Method} {c : Code} {g : Gp} {b L j F : Nat} {xs : Nat → Int32} {K : Kt} {σ τ : St} {ex : Nat → Bool} {β : Nat → St} {H : Heap} {locs : List Loc} {ls : Array Slot} (CL : LC g p s m b L xs meth c) (hL : L ≤ 3072) (hj : 6 * j + 6 ≤ L) (h : fL_22 F j xs K σ τ ex β = some 1)
    (hK : ∀ (σ τ : St) (ex : Nat → Bool) (β : Nat → St), K σ τ ex β = some 1 → ∀ (g : Gp) (H : Heap) (locs : List Loc) (ls : Array Slot), LC g p s m b L xs meth c → Dy g (wD g σ ++ (slW g ex β ++ wM g τ)) s H locs → lv_has ls 4 [(0, .ref b), (1, .ref (ga g 0)), (2, .ref (ga g 40)), (3, .int (nI (6 * j)))] → W p l e room_1 s m #[Value.ref b] below meth c H locs (100 + 17 * (j + 1)) (50000 + 3085 * (j + 1)) (lw_Z below #[Value.ref b] s) (F0 m 1863 ls []))
    (hd : Dy g (wD g σ ++ (slW g ex β ++ wM g τ)) s H locs) (hl : lv_has ls 4 [(0, .ref b), (1, .ref (ga g 0)), (2, .ref (ga g 40)), (3, .int (nI (6 * j)))]) : W p l e room_1 s m #[Value.ref b] below meth c H locs (100 + 17 * j) (50000 + 3085 * j) (lw_Z below #[Value.ref b] s) (F0 m 936 ls []) := by
  have C := CL.1
  have hx := C.1
  have hb := C.2.1
  have hE := C.2.2.2.2.2.2.2.2
  have hcs : 100 + 17 * j ≤ room_1.cells ∧ 50000 + 3085 * j ≤ room_1.slots := ⟨by show 100 + 17 * j ≤ 600000; omega, by show 50000 + 3085 * j ≤ 7302250; omega⟩
  rw [fL_22] at h
  refine lv_aload_n hx hb dL_law_936 rfl (lv_at hl 1 rfl) ?_
  refine lv_aload_n hx hb dL_law_937 rfl (lv_at hl 0 rfl) ?_
  refine lv_iload_n hx hb dL_law_938 rfl (lv_at hl 3 rfl) ?_
  refine lv_iconst (v := nI 1) hx hb dL_law_939 (by decide) ?_
  refine rScr (q := 1) CL hd hL hj (by decide) dL_law_940 dL_law_941 ?_
  refine lv_aload_n hx hb dL_law_942 rfl (lv_at hl 0 rfl) ?_
  refine lv_iload_n hx hb dL_law_943 rfl (lv_at hl 3 rfl) ?_
  refine lv_iconst (v := nI 2) hx hb dL_law_944 (by decide) ?_
  refine rScr (q := 2) CL hd hL hj (by decide) dL_law_945 dL_law_946 ?_
  obtain ⟨r1, er1, h⟩ := cal_e h
  refine rCallI C hd (c_X7_source hE er1) kL_109 0 rfl rfl rfl rfl hl.1 rfl (Nat.le_of_ble_eq_true rfl) ⟨(Nat.le_of_ble_eq_true rfl), (Nat.le_of_ble_eq_true rfl)⟩ hcs dL_law_947 (fun H locs hd => ?_)
  refine lv_aload_n hx hb dL_law_950 rfl (lv_at hl 2 rfl) ?_
  refine lv_aload_n hx hb dL_law_951 rfl (lv_at hl 0 rfl) ?_
  refine lv_iload_n hx hb dL_law_952 rfl (lv_at hl 3 rfl) ?_
  refine lv_iconst (v := nI 1) hx hb dL_law_953 (by decide) ?_
  refine rScr (q := 1) CL hd hL hj (by decide) dL_law_954 dL_law_955 ?_
  refine lv_aload_n hx hb dL_law_956 rfl (lv_at hl 0 rfl) ?_
  refine lv_iload_n hx hb dL_law_957 rfl (lv_at hl 3 rfl) ?_
  refine lv_iconst (v := nI 2) hx hb dL_law_958 (by decide) ?_
  refine rScr (q := 2) CL hd hL hj (by decide) dL_law_959 dL_law_960 ?_
  have hd : Dy g (wM g τ ++ (wD g σ ++ slW g ex β)) s _ _ := Dy.perm hd wl_perm
  obtain ⟨r2, er2, h⟩ := cal_e h
  refine rCallI C hd (c_X8_source hE er2) kL_112 0 rfl rfl rfl rfl hl.1 rfl (Nat.le_of_ble_eq_true rfl) ⟨(Nat.le_of_ble_eq_true rfl), (Nat.le_of_ble_eq_true rfl)⟩ hcs dL_law_961 (fun H locs hd => ?_)
  have hd : Dy g (wD g σ ++ (slW g ex β ++ wM g τ)) s _ _ := Dy.perm hd wl_perm.symm
  refine lv_icmp_eq (tgt := 1863) hx hb dL_law_964 (by decide) (fun c9 => ?_) (fun c9 => ?_)
  · replace h := iteT c9 h
    refine W.widen (k := 100 + 17 * (j + 1)) (n := 50000 + 3085 * (j + 1)) (by omega) (by omega) ?_
    exact hK _ _ _ _ h g _ _ _ CL hd hl
  · replace h := iteF c9 h
    exact absurd (Option.some.inj h) (by decide)

set_option maxRecDepth 100000 in
set_option maxHeartbeats 4000000 in
theorem lc_23 {p : Program} {l : Launch} {e : Env} {s : State} {m : MethodId} {below : List Frame} {meth : Method} {c : Code} {g : Gp} {b L j F : Nat} {xs : Nat → Int32} {K : Kt} {σ τ : St} {ex : Nat → Bool} {β : Nat → St} {H : Heap} {locs : List Loc} {ls : Array Slot} (CL : LC g p s m b L xs meth c) (hL : L ≤ 3072) (hj : 6 * j + 6 ≤ L) (h : fL_23 F j xs K σ τ ex β = some 1)
    (hK : ∀ (σ τ : St) (ex : Nat → Bool) (β : Nat → St), K σ τ ex β = some 1 → ∀ (g : Gp) (H : Heap) (locs : List Loc) (ls : Array Slot), LC g p s m b L xs meth c → Dy g (wD g σ ++ (slW g ex β ++ wM g τ)) s H locs → lv_has ls 4 [(0, .ref b), (1, .ref (ga g 0)), (2, .ref (ga g 40)), (3, .int (nI (6 * j)))] → W p l e room_1 s m #[Value.ref b] below meth c H locs (100 + 17 * (j + 1)) (50000 + 3085 * (j + 1)) (lw_Z below #[Value.ref b] s) (F0 m 1863 ls []))
    (hd : Dy g (wD g σ ++ (slW g ex β ++ wM g τ)) s H locs) (hl : lv_has ls 4 [(0, .ref b), (1, .ref (ga g 0)), (2, .ref (ga g 40)), (3, .int (nI (6 * j)))]) : W p l e room_1 s m #[Value.ref b] below meth c H locs (100 + 17 * j) (50000 + 3085 * j) (lw_Z below #[Value.ref b] s) (F0 m 969 ls []) := by
  have C := CL.1
  have hx := C.1
  have hb := C.2.1
  have hE := C.2.2.2.2.2.2.2.2
  have hcs : 100 + 17 * j ≤ room_1.cells ∧ 50000 + 3085 * j ≤ room_1.slots := ⟨by show 100 + 17 * j ≤ 600000; omega, by show 50000 + 3085 * j ≤ 7302250; omega⟩
  rw [fL_23] at h
  refine lv_aload_n hx hb dL_law_969 rfl (lv_at hl 1 rfl) ?_
  refine lv_aload_n hx hb dL_law_970 rfl (lv_at hl 0 rfl) ?_
  refine lv_iload_n hx hb dL_law_971 rfl (lv_at hl 3 rfl) ?_
  refine lv_iconst (v := nI 1) hx hb dL_law_972 (by decide) ?_
  refine rScr (q := 1) CL hd hL hj (by decide) dL_law_973 dL_law_974 ?_
  refine lv_aload_n hx hb dL_law_975 rfl (lv_at hl 0 rfl) ?_
  refine lv_iload_n hx hb dL_law_976 rfl (lv_at hl 3 rfl) ?_
  refine lv_iconst (v := nI 2) hx hb dL_law_977 (by decide) ?_
  refine rScr (q := 2) CL hd hL hj (by decide) dL_law_978 dL_law_979 ?_
  obtain ⟨r1, er1, h⟩ := cal_e h
  refine rCallI C hd (c_X7_taken hE er1) kL_113 0 rfl rfl rfl rfl hl.1 rfl (Nat.le_of_ble_eq_true rfl) ⟨(Nat.le_of_ble_eq_true rfl), (Nat.le_of_ble_eq_true rfl)⟩ hcs dL_law_980 (fun H locs hd => ?_)
  refine lv_aload_n hx hb dL_law_983 rfl (lv_at hl 2 rfl) ?_
  refine lv_aload_n hx hb dL_law_984 rfl (lv_at hl 0 rfl) ?_
  refine lv_iload_n hx hb dL_law_985 rfl (lv_at hl 3 rfl) ?_
  refine lv_iconst (v := nI 1) hx hb dL_law_986 (by decide) ?_
  refine rScr (q := 1) CL hd hL hj (by decide) dL_law_987 dL_law_988 ?_
  refine lv_aload_n hx hb dL_law_989 rfl (lv_at hl 0 rfl) ?_
  refine lv_iload_n hx hb dL_law_990 rfl (lv_at hl 3 rfl) ?_
  refine lv_iconst (v := nI 2) hx hb dL_law_991 (by decide) ?_
  refine rScr (q := 2) CL hd hL hj (by decide) dL_law_992 dL_law_993 ?_
  have hd : Dy g (wM g τ ++ (wD g σ ++ slW g ex β)) s _ _ := Dy.perm hd wl_perm
  obtain ⟨r2, er2, h⟩ := cal_e h
  refine rCallI C hd (c_X8_taken hE er2) kL_116 0 rfl rfl rfl rfl hl.1 rfl (Nat.le_of_ble_eq_true rfl) ⟨(Nat.le_of_ble_eq_true rfl), (Nat.le_of_ble_eq_true rfl)⟩ hcs dL_law_994 (fun H locs hd => ?_)
  have hd : Dy g (wD g σ ++ (slW g ex β ++ wM g τ)) s _ _ := Dy.perm hd wl_perm.symm
  refine lv_icmp_eq (tgt := 1863) hx hb dL_law_997 (by decide) (fun c9 => ?_) (fun c9 => ?_)
  · replace h := iteT c9 h
    refine W.widen (k := 100 + 17 * (j + 1)) (n := 50000 + 3085 * (j + 1)) (by omega) (by omega) ?_
    exact hK _ _ _ _ h g _ _ _ CL hd hl
  · replace h := iteF c9 h
    exact absurd (Option.some.inj h) (by decide)

set_option maxRecDepth 100000 in
set_option maxHeartbeats 4000000 in
theorem lc_24 {p : Program} {l : Launch} {e : Env} {s : State} {m : MethodId} {below : List Frame} {meth : Method} {c : Code} {g : Gp} {b L j F : Nat} {xs : Nat → Int32} {K : Kt} {σ τ : St} {ex : Nat → Bool} {β : Nat → St} {H : Heap} {locs : List Loc} {ls : Array Slot} (CL : LC g p s m b L xs meth c) (hL : L ≤ 3072) (hj : 6 * j + 6 ≤ L) (h : fL_24 F j xs K σ τ ex β = some 1)
    (hK : ∀ (σ τ : St) (ex : Nat → Bool) (β : Nat → St), K σ τ ex β = some 1 → ∀ (g : Gp) (H : Heap) (locs : List Loc) (ls : Array Slot), LC g p s m b L xs meth c → Dy g (wD g σ ++ (slW g ex β ++ wM g τ)) s H locs → lv_has ls 4 [(0, .ref b), (1, .ref (ga g 0)), (2, .ref (ga g 40)), (3, .int (nI (6 * j)))] → W p l e room_1 s m #[Value.ref b] below meth c H locs (100 + 17 * (j + 1)) (50000 + 3085 * (j + 1)) (lw_Z below #[Value.ref b] s) (F0 m 1863 ls []))
    (hd : Dy g (wD g σ ++ (slW g ex β ++ wM g τ)) s H locs) (hl : lv_has ls 4 [(0, .ref b), (1, .ref (ga g 0)), (2, .ref (ga g 40)), (3, .int (nI (6 * j)))]) : W p l e room_1 s m #[Value.ref b] below meth c H locs (100 + 17 * j) (50000 + 3085 * j) (lw_Z below #[Value.ref b] s) (F0 m 1002 ls []) := by
  have C := CL.1
  have hx := C.1
  have hb := C.2.1
  have hE := C.2.2.2.2.2.2.2.2
  have hcs : 100 + 17 * j ≤ room_1.cells ∧ 50000 + 3085 * j ≤ room_1.slots := ⟨by show 100 + 17 * j ≤ 600000; omega, by show 50000 + 3085 * j ≤ 7302250; omega⟩
  rw [fL_24] at h
  refine lv_aload_n hx hb dL_law_1002 rfl (lv_at hl 1 rfl) ?_
  refine lv_aload_n hx hb dL_law_1003 rfl (lv_at hl 0 rfl) ?_
  refine lv_iload_n hx hb dL_law_1004 rfl (lv_at hl 3 rfl) ?_
  refine lv_iconst (v := nI 1) hx hb dL_law_1005 (by decide) ?_
  refine rScr (q := 1) CL hd hL hj (by decide) dL_law_1006 dL_law_1007 ?_
  refine lv_aload_n hx hb dL_law_1008 rfl (lv_at hl 0 rfl) ?_
  refine lv_iload_n hx hb dL_law_1009 rfl (lv_at hl 3 rfl) ?_
  refine lv_iconst (v := nI 2) hx hb dL_law_1010 (by decide) ?_
  refine rScr (q := 2) CL hd hL hj (by decide) dL_law_1011 dL_law_1012 ?_
  obtain ⟨r1, er1, h⟩ := cal_e h
  refine rCallI C hd (c_X7_held hE er1) kL_117 0 rfl rfl rfl rfl hl.1 rfl (Nat.le_of_ble_eq_true rfl) ⟨(Nat.le_of_ble_eq_true rfl), (Nat.le_of_ble_eq_true rfl)⟩ hcs dL_law_1013 (fun H locs hd => ?_)
  refine lv_aload_n hx hb dL_law_1016 rfl (lv_at hl 2 rfl) ?_
  refine lv_aload_n hx hb dL_law_1017 rfl (lv_at hl 0 rfl) ?_
  refine lv_iload_n hx hb dL_law_1018 rfl (lv_at hl 3 rfl) ?_
  refine lv_iconst (v := nI 1) hx hb dL_law_1019 (by decide) ?_
  refine rScr (q := 1) CL hd hL hj (by decide) dL_law_1020 dL_law_1021 ?_
  refine lv_aload_n hx hb dL_law_1022 rfl (lv_at hl 0 rfl) ?_
  refine lv_iload_n hx hb dL_law_1023 rfl (lv_at hl 3 rfl) ?_
  refine lv_iconst (v := nI 2) hx hb dL_law_1024 (by decide) ?_
  refine rScr (q := 2) CL hd hL hj (by decide) dL_law_1025 dL_law_1026 ?_
  have hd : Dy g (wM g τ ++ (wD g σ ++ slW g ex β)) s _ _ := Dy.perm hd wl_perm
  obtain ⟨r2, er2, h⟩ := cal_e h
  refine rCallI C hd (c_X8_held hE er2) kL_120 0 rfl rfl rfl rfl hl.1 rfl (Nat.le_of_ble_eq_true rfl) ⟨(Nat.le_of_ble_eq_true rfl), (Nat.le_of_ble_eq_true rfl)⟩ hcs dL_law_1027 (fun H locs hd => ?_)
  have hd : Dy g (wD g σ ++ (slW g ex β ++ wM g τ)) s _ _ := Dy.perm hd wl_perm.symm
  refine lv_icmp_eq (tgt := 1863) hx hb dL_law_1030 (by decide) (fun c9 => ?_) (fun c9 => ?_)
  · replace h := iteT c9 h
    refine W.widen (k := 100 + 17 * (j + 1)) (n := 50000 + 3085 * (j + 1)) (by omega) (by omega) ?_
    exact hK _ _ _ _ h g _ _ _ CL hd hl
  · replace h := iteF c9 h
    exact absurd (Option.some.inj h) (by decide)

set_option maxRecDepth 100000 in
set_option maxHeartbeats 4000000 in
theorem lc_25 {p : Program} {l : Launch} {e : Env} {s : State} {m : MethodId} {below : List Frame} {meth : Method} {c : Code} {g : Gp} {b L j F : Nat} {xs : Nat → Int32} {K : Kt} {σ τ : St} {ex : Nat → Bool} {β : Nat → St} {H : Heap} {locs : List Loc} {ls : Array Slot} (CL : LC g p s m b L xs meth c) (hL : L ≤ 3072) (hj : 6 * j + 6 ≤ L) (h : fL_25 F j xs K σ τ ex β = some 1)
    (hK : ∀ (σ τ : St) (ex : Nat → Bool) (β : Nat → St), K σ τ ex β = some 1 → ∀ (g : Gp) (H : Heap) (locs : List Loc) (ls : Array Slot), LC g p s m b L xs meth c → Dy g (wD g σ ++ (slW g ex β ++ wM g τ)) s H locs → lv_has ls 4 [(0, .ref b), (1, .ref (ga g 0)), (2, .ref (ga g 40)), (3, .int (nI (6 * j)))] → W p l e room_1 s m #[Value.ref b] below meth c H locs (100 + 17 * (j + 1)) (50000 + 3085 * (j + 1)) (lw_Z below #[Value.ref b] s) (F0 m 1863 ls []))
    (hd : Dy g (wD g σ ++ (slW g ex β ++ wM g τ)) s H locs) (hl : lv_has ls 4 [(0, .ref b), (1, .ref (ga g 0)), (2, .ref (ga g 40)), (3, .int (nI (6 * j)))]) : W p l e room_1 s m #[Value.ref b] below meth c H locs (100 + 17 * j) (50000 + 3085 * j) (lw_Z below #[Value.ref b] s) (F0 m 1035 ls []) := by
  have C := CL.1
  have hx := C.1
  have hb := C.2.1
  have hE := C.2.2.2.2.2.2.2.2
  have hcs : 100 + 17 * j ≤ room_1.cells ∧ 50000 + 3085 * j ≤ room_1.slots := ⟨by show 100 + 17 * j ≤ 600000; omega, by show 50000 + 3085 * j ≤ 7302250; omega⟩
  rw [fL_25] at h
  refine lv_aload_n hx hb dL_law_1035 rfl (lv_at hl 1 rfl) ?_
  refine lv_aload_n hx hb dL_law_1036 rfl (lv_at hl 0 rfl) ?_
  refine lv_iload_n hx hb dL_law_1037 rfl (lv_at hl 3 rfl) ?_
  refine lv_iconst (v := nI 1) hx hb dL_law_1038 (by decide) ?_
  refine rScr (q := 1) CL hd hL hj (by decide) dL_law_1039 dL_law_1040 ?_
  refine lv_aload_n hx hb dL_law_1041 rfl (lv_at hl 0 rfl) ?_
  refine lv_iload_n hx hb dL_law_1042 rfl (lv_at hl 3 rfl) ?_
  refine lv_iconst (v := nI 2) hx hb dL_law_1043 (by decide) ?_
  refine rScr (q := 2) CL hd hL hj (by decide) dL_law_1044 dL_law_1045 ?_
  refine lv_aload_n hx hb dL_law_1046 rfl (lv_at hl 0 rfl) ?_
  refine lv_iload_n hx hb dL_law_1047 rfl (lv_at hl 3 rfl) ?_
  refine lv_iconst (v := nI 3) hx hb dL_law_1048 (by decide) ?_
  refine rScr (q := 3) CL hd hL hj (by decide) dL_law_1049 dL_law_1050 ?_
  obtain ⟨r1, σ1, er1, h⟩ := cal2_e h
  refine rCallI C hd (c_X7_would hE er1) kL_121 0 rfl rfl rfl rfl hl.1 rfl (Nat.le_of_ble_eq_true rfl) ⟨(Nat.le_of_ble_eq_true rfl), (Nat.le_of_ble_eq_true rfl)⟩ hcs dL_law_1051 (fun H locs hd => ?_)
  refine lv_aload_n hx hb dL_law_1054 rfl (lv_at hl 2 rfl) ?_
  refine lv_aload_n hx hb dL_law_1055 rfl (lv_at hl 0 rfl) ?_
  refine lv_iload_n hx hb dL_law_1056 rfl (lv_at hl 3 rfl) ?_
  refine lv_iconst (v := nI 1) hx hb dL_law_1057 (by decide) ?_
  refine rScr (q := 1) CL hd hL hj (by decide) dL_law_1058 dL_law_1059 ?_
  refine lv_aload_n hx hb dL_law_1060 rfl (lv_at hl 0 rfl) ?_
  refine lv_iload_n hx hb dL_law_1061 rfl (lv_at hl 3 rfl) ?_
  refine lv_iconst (v := nI 2) hx hb dL_law_1062 (by decide) ?_
  refine rScr (q := 2) CL hd hL hj (by decide) dL_law_1063 dL_law_1064 ?_
  refine lv_aload_n hx hb dL_law_1065 rfl (lv_at hl 0 rfl) ?_
  refine lv_iload_n hx hb dL_law_1066 rfl (lv_at hl 3 rfl) ?_
  refine lv_iconst (v := nI 3) hx hb dL_law_1067 (by decide) ?_
  refine rScr (q := 3) CL hd hL hj (by decide) dL_law_1068 dL_law_1069 ?_
  have hd : Dy g (wM g τ ++ (wD g σ1 ++ slW g ex β)) s _ _ := Dy.perm hd wl_perm
  obtain ⟨r2, τ1, er2, h⟩ := cal2_e h
  refine rCallI C hd (c_X8_would hE er2) kL_124 0 rfl rfl rfl rfl hl.1 rfl (Nat.le_of_ble_eq_true rfl) ⟨(Nat.le_of_ble_eq_true rfl), (Nat.le_of_ble_eq_true rfl)⟩ hcs dL_law_1070 (fun H locs hd => ?_)
  have hd : Dy g (wD g σ1 ++ (slW g ex β ++ wM g τ1)) s _ _ := Dy.perm hd wl_perm.symm
  refine lv_icmp_eq (tgt := 1863) hx hb dL_law_1073 (by decide) (fun c9 => ?_) (fun c9 => ?_)
  · replace h := iteT c9 h
    refine W.widen (k := 100 + 17 * (j + 1)) (n := 50000 + 3085 * (j + 1)) (by omega) (by omega) ?_
    exact hK _ _ _ _ h g _ _ _ CL hd hl
  · replace h := iteF c9 h
    exact absurd (Option.some.inj h) (by decide)

set_option maxRecDepth 100000 in
set_option maxHeartbeats 4000000 in
theorem lc_26 {p : Program} {l : Launch} {e : Env} {s : State} {m : MethodId} {below : List Frame} {meth : Method} {c : Code} {g : Gp} {b L j F : Nat} {xs : Nat → Int32} {K : Kt} {σ τ : St} {ex : Nat → Bool} {β : Nat → St} {H : Heap} {locs : List Loc} {ls : Array Slot} (CL : LC g p s m b L xs meth c) (hL : L ≤ 3072) (hj : 6 * j + 6 ≤ L) (h : fL_26 F j xs K σ τ ex β = some 1)
    (hK : ∀ (σ τ : St) (ex : Nat → Bool) (β : Nat → St), K σ τ ex β = some 1 → ∀ (g : Gp) (H : Heap) (locs : List Loc) (ls : Array Slot), LC g p s m b L xs meth c → Dy g (wD g σ ++ (slW g ex β ++ wM g τ)) s H locs → lv_has ls 4 [(0, .ref b), (1, .ref (ga g 0)), (2, .ref (ga g 40)), (3, .int (nI (6 * j)))] → W p l e room_1 s m #[Value.ref b] below meth c H locs (100 + 17 * (j + 1)) (50000 + 3085 * (j + 1)) (lw_Z below #[Value.ref b] s) (F0 m 1863 ls []))
    (hd : Dy g (wD g σ ++ (slW g ex β ++ wM g τ)) s H locs) (hl : lv_has ls 4 [(0, .ref b), (1, .ref (ga g 0)), (2, .ref (ga g 40)), (3, .int (nI (6 * j)))]) : W p l e room_1 s m #[Value.ref b] below meth c H locs (100 + 17 * j) (50000 + 3085 * j) (lw_Z below #[Value.ref b] s) (F0 m 1078 ls []) := by
  have C := CL.1
  have hx := C.1
  have hb := C.2.1
  have hE := C.2.2.2.2.2.2.2.2
  have hcs : 100 + 17 * j ≤ room_1.cells ∧ 50000 + 3085 * j ≤ room_1.slots := ⟨by show 100 + 17 * j ≤ 600000; omega, by show 50000 + 3085 * j ≤ 7302250; omega⟩
  rw [fL_26] at h
  refine lv_aload_n hx hb dL_law_1078 rfl (lv_at hl 1 rfl) ?_
  refine lv_aload_n hx hb dL_law_1079 rfl (lv_at hl 0 rfl) ?_
  refine lv_iload_n hx hb dL_law_1080 rfl (lv_at hl 3 rfl) ?_
  refine lv_iconst (v := nI 1) hx hb dL_law_1081 (by decide) ?_
  refine rScr (q := 1) CL hd hL hj (by decide) dL_law_1082 dL_law_1083 ?_
  refine lv_aload_n hx hb dL_law_1084 rfl (lv_at hl 0 rfl) ?_
  refine lv_iload_n hx hb dL_law_1085 rfl (lv_at hl 3 rfl) ?_
  refine lv_iconst (v := nI 2) hx hb dL_law_1086 (by decide) ?_
  refine rScr (q := 2) CL hd hL hj (by decide) dL_law_1087 dL_law_1088 ?_
  refine lv_aload_n hx hb dL_law_1089 rfl (lv_at hl 0 rfl) ?_
  refine lv_iload_n hx hb dL_law_1090 rfl (lv_at hl 3 rfl) ?_
  refine lv_iconst (v := nI 3) hx hb dL_law_1091 (by decide) ?_
  refine rScr (q := 3) CL hd hL hj (by decide) dL_law_1092 dL_law_1093 ?_
  refine lv_aload_n hx hb dL_law_1094 rfl (lv_at hl 0 rfl) ?_
  refine lv_iload_n hx hb dL_law_1095 rfl (lv_at hl 3 rfl) ?_
  refine lv_iconst (v := nI 4) hx hb dL_law_1096 (by decide) ?_
  refine rScr (q := 4) CL hd hL hj (by decide) dL_law_1097 dL_law_1098 ?_
  obtain ⟨r1, σ1, er1, h⟩ := cal2_e h
  refine rCallI C hd (c_X7_named hE er1) kL_125 0 rfl rfl rfl rfl hl.1 rfl (Nat.le_of_ble_eq_true rfl) ⟨(Nat.le_of_ble_eq_true rfl), (Nat.le_of_ble_eq_true rfl)⟩ hcs dL_law_1099 (fun H locs hd => ?_)
  refine lv_aload_n hx hb dL_law_1102 rfl (lv_at hl 2 rfl) ?_
  refine lv_aload_n hx hb dL_law_1103 rfl (lv_at hl 0 rfl) ?_
  refine lv_iload_n hx hb dL_law_1104 rfl (lv_at hl 3 rfl) ?_
  refine lv_iconst (v := nI 1) hx hb dL_law_1105 (by decide) ?_
  refine rScr (q := 1) CL hd hL hj (by decide) dL_law_1106 dL_law_1107 ?_
  refine lv_aload_n hx hb dL_law_1108 rfl (lv_at hl 0 rfl) ?_
  refine lv_iload_n hx hb dL_law_1109 rfl (lv_at hl 3 rfl) ?_
  refine lv_iconst (v := nI 2) hx hb dL_law_1110 (by decide) ?_
  refine rScr (q := 2) CL hd hL hj (by decide) dL_law_1111 dL_law_1112 ?_
  refine lv_aload_n hx hb dL_law_1113 rfl (lv_at hl 0 rfl) ?_
  refine lv_iload_n hx hb dL_law_1114 rfl (lv_at hl 3 rfl) ?_
  refine lv_iconst (v := nI 3) hx hb dL_law_1115 (by decide) ?_
  refine rScr (q := 3) CL hd hL hj (by decide) dL_law_1116 dL_law_1117 ?_
  refine lv_aload_n hx hb dL_law_1118 rfl (lv_at hl 0 rfl) ?_
  refine lv_iload_n hx hb dL_law_1119 rfl (lv_at hl 3 rfl) ?_
  refine lv_iconst (v := nI 4) hx hb dL_law_1120 (by decide) ?_
  refine rScr (q := 4) CL hd hL hj (by decide) dL_law_1121 dL_law_1122 ?_
  have hd : Dy g (wM g τ ++ (wD g σ1 ++ slW g ex β)) s _ _ := Dy.perm hd wl_perm
  obtain ⟨r2, τ1, er2, h⟩ := cal2_e h
  refine rCallI C hd (c_X8_named hE er2) kL_129 0 rfl rfl rfl rfl hl.1 rfl (Nat.le_of_ble_eq_true rfl) ⟨(Nat.le_of_ble_eq_true rfl), (Nat.le_of_ble_eq_true rfl)⟩ hcs dL_law_1123 (fun H locs hd => ?_)
  have hd : Dy g (wD g σ1 ++ (slW g ex β ++ wM g τ1)) s _ _ := Dy.perm hd wl_perm.symm
  refine lv_icmp_eq (tgt := 1863) hx hb dL_law_1126 (by decide) (fun c9 => ?_) (fun c9 => ?_)
  · replace h := iteT c9 h
    refine W.widen (k := 100 + 17 * (j + 1)) (n := 50000 + 3085 * (j + 1)) (by omega) (by omega) ?_
    exact hK _ _ _ _ h g _ _ _ CL hd hl
  · replace h := iteF c9 h
    exact absurd (Option.some.inj h) (by decide)

set_option maxRecDepth 100000 in
set_option maxHeartbeats 4000000 in
theorem lc_27 {p : Program} {l : Launch} {e : Env} {s : State} {m : MethodId} {below : List Frame} {meth : Method} {c : Code} {g : Gp} {b L j F : Nat} {xs : Nat → Int32} {K : Kt} {σ τ : St} {ex : Nat → Bool} {β : Nat → St} {H : Heap} {locs : List Loc} {ls : Array Slot} (CL : LC g p s m b L xs meth c) (hL : L ≤ 3072) (hj : 6 * j + 6 ≤ L) (h : fL_27 F j xs K σ τ ex β = some 1)
    (hK : ∀ (σ τ : St) (ex : Nat → Bool) (β : Nat → St), K σ τ ex β = some 1 → ∀ (g : Gp) (H : Heap) (locs : List Loc) (ls : Array Slot), LC g p s m b L xs meth c → Dy g (wD g σ ++ (slW g ex β ++ wM g τ)) s H locs → lv_has ls 4 [(0, .ref b), (1, .ref (ga g 0)), (2, .ref (ga g 40)), (3, .int (nI (6 * j)))] → W p l e room_1 s m #[Value.ref b] below meth c H locs (100 + 17 * (j + 1)) (50000 + 3085 * (j + 1)) (lw_Z below #[Value.ref b] s) (F0 m 1863 ls []))
    (hd : Dy g (wD g σ ++ (slW g ex β ++ wM g τ)) s H locs) (hl : lv_has ls 4 [(0, .ref b), (1, .ref (ga g 0)), (2, .ref (ga g 40)), (3, .int (nI (6 * j)))]) : W p l e room_1 s m #[Value.ref b] below meth c H locs (100 + 17 * j) (50000 + 3085 * j) (lw_Z below #[Value.ref b] s) (F0 m 1131 ls []) := by
  have C := CL.1
  have hx := C.1
  have hb := C.2.1
  have hE := C.2.2.2.2.2.2.2.2
  have hcs : 100 + 17 * j ≤ room_1.cells ∧ 50000 + 3085 * j ≤ room_1.slots := ⟨by show 100 + 17 * j ≤ 600000; omega, by show 50000 + 3085 * j ≤ 7302250; omega⟩
  rw [fL_27] at h
  refine lv_aload_n hx hb dL_law_1131 rfl (lv_at hl 1 rfl) ?_
  refine lv_aload_n hx hb dL_law_1132 rfl (lv_at hl 0 rfl) ?_
  refine lv_iload_n hx hb dL_law_1133 rfl (lv_at hl 3 rfl) ?_
  refine lv_iconst (v := nI 1) hx hb dL_law_1134 (by decide) ?_
  refine rScr (q := 1) CL hd hL hj (by decide) dL_law_1135 dL_law_1136 ?_
  refine lv_aload_n hx hb dL_law_1137 rfl (lv_at hl 0 rfl) ?_
  refine lv_iload_n hx hb dL_law_1138 rfl (lv_at hl 3 rfl) ?_
  refine lv_iconst (v := nI 2) hx hb dL_law_1139 (by decide) ?_
  refine rScr (q := 2) CL hd hL hj (by decide) dL_law_1140 dL_law_1141 ?_
  refine lv_aload_n hx hb dL_law_1142 rfl (lv_at hl 0 rfl) ?_
  refine lv_iload_n hx hb dL_law_1143 rfl (lv_at hl 3 rfl) ?_
  refine lv_iconst (v := nI 3) hx hb dL_law_1144 (by decide) ?_
  refine rScr (q := 3) CL hd hL hj (by decide) dL_law_1145 dL_law_1146 ?_
  refine lv_aload_n hx hb dL_law_1147 rfl (lv_at hl 0 rfl) ?_
  refine lv_iload_n hx hb dL_law_1148 rfl (lv_at hl 3 rfl) ?_
  refine lv_iconst (v := nI 4) hx hb dL_law_1149 (by decide) ?_
  refine rScr (q := 4) CL hd hL hj (by decide) dL_law_1150 dL_law_1151 ?_
  obtain ⟨r1, σ1, er1, h⟩ := cal2_e h
  refine rCallI C hd (c_X7_needs hE er1) kL_130 0 rfl rfl rfl rfl hl.1 rfl (Nat.le_of_ble_eq_true rfl) ⟨(Nat.le_of_ble_eq_true rfl), (Nat.le_of_ble_eq_true rfl)⟩ hcs dL_law_1152 (fun H locs hd => ?_)
  refine lv_aload_n hx hb dL_law_1155 rfl (lv_at hl 2 rfl) ?_
  refine lv_aload_n hx hb dL_law_1156 rfl (lv_at hl 0 rfl) ?_
  refine lv_iload_n hx hb dL_law_1157 rfl (lv_at hl 3 rfl) ?_
  refine lv_iconst (v := nI 1) hx hb dL_law_1158 (by decide) ?_
  refine rScr (q := 1) CL hd hL hj (by decide) dL_law_1159 dL_law_1160 ?_
  refine lv_aload_n hx hb dL_law_1161 rfl (lv_at hl 0 rfl) ?_
  refine lv_iload_n hx hb dL_law_1162 rfl (lv_at hl 3 rfl) ?_
  refine lv_iconst (v := nI 2) hx hb dL_law_1163 (by decide) ?_
  refine rScr (q := 2) CL hd hL hj (by decide) dL_law_1164 dL_law_1165 ?_
  refine lv_aload_n hx hb dL_law_1166 rfl (lv_at hl 0 rfl) ?_
  refine lv_iload_n hx hb dL_law_1167 rfl (lv_at hl 3 rfl) ?_
  refine lv_iconst (v := nI 3) hx hb dL_law_1168 (by decide) ?_
  refine rScr (q := 3) CL hd hL hj (by decide) dL_law_1169 dL_law_1170 ?_
  refine lv_aload_n hx hb dL_law_1171 rfl (lv_at hl 0 rfl) ?_
  refine lv_iload_n hx hb dL_law_1172 rfl (lv_at hl 3 rfl) ?_
  refine lv_iconst (v := nI 4) hx hb dL_law_1173 (by decide) ?_
  refine rScr (q := 4) CL hd hL hj (by decide) dL_law_1174 dL_law_1175 ?_
  have hd : Dy g (wM g τ ++ (wD g σ1 ++ slW g ex β)) s _ _ := Dy.perm hd wl_perm
  obtain ⟨r2, τ1, er2, h⟩ := cal2_e h
  refine rCallI C hd (c_X8_needs hE er2) kL_133 0 rfl rfl rfl rfl hl.1 rfl (Nat.le_of_ble_eq_true rfl) ⟨(Nat.le_of_ble_eq_true rfl), (Nat.le_of_ble_eq_true rfl)⟩ hcs dL_law_1176 (fun H locs hd => ?_)
  have hd : Dy g (wD g σ1 ++ (slW g ex β ++ wM g τ1)) s _ _ := Dy.perm hd wl_perm.symm
  refine lv_icmp_eq (tgt := 1863) hx hb dL_law_1179 (by decide) (fun c9 => ?_) (fun c9 => ?_)
  · replace h := iteT c9 h
    refine W.widen (k := 100 + 17 * (j + 1)) (n := 50000 + 3085 * (j + 1)) (by omega) (by omega) ?_
    exact hK _ _ _ _ h g _ _ _ CL hd hl
  · replace h := iteF c9 h
    exact absurd (Option.some.inj h) (by decide)

set_option maxRecDepth 100000 in
set_option maxHeartbeats 4000000 in
theorem lc_28 {p : Program} {l : Launch} {e : Env} {s : State} {m : MethodId} {below : List Frame} {meth : Method} {c : Code} {g : Gp} {b L j F : Nat} {xs : Nat → Int32} {K : Kt} {σ τ : St} {ex : Nat → Bool} {β : Nat → St} {H : Heap} {locs : List Loc} {ls : Array Slot} (CL : LC g p s m b L xs meth c) (hL : L ≤ 3072) (hj : 6 * j + 6 ≤ L) (h : fL_28 F j xs K σ τ ex β = some 1)
    (hK : ∀ (σ τ : St) (ex : Nat → Bool) (β : Nat → St), K σ τ ex β = some 1 → ∀ (g : Gp) (H : Heap) (locs : List Loc) (ls : Array Slot), LC g p s m b L xs meth c → Dy g (wD g σ ++ (slW g ex β ++ wM g τ)) s H locs → lv_has ls 4 [(0, .ref b), (1, .ref (ga g 0)), (2, .ref (ga g 40)), (3, .int (nI (6 * j)))] → W p l e room_1 s m #[Value.ref b] below meth c H locs (100 + 17 * (j + 1)) (50000 + 3085 * (j + 1)) (lw_Z below #[Value.ref b] s) (F0 m 1863 ls []))
    (hd : Dy g (wD g σ ++ (slW g ex β ++ wM g τ)) s H locs) (hl : lv_has ls 4 [(0, .ref b), (1, .ref (ga g 0)), (2, .ref (ga g 40)), (3, .int (nI (6 * j)))]) : W p l e room_1 s m #[Value.ref b] below meth c H locs (100 + 17 * j) (50000 + 3085 * j) (lw_Z below #[Value.ref b] s) (F0 m 1184 ls []) := by
  have C := CL.1
  have hx := C.1
  have hb := C.2.1
  have hE := C.2.2.2.2.2.2.2.2
  have hcs : 100 + 17 * j ≤ room_1.cells ∧ 50000 + 3085 * j ≤ room_1.slots := ⟨by show 100 + 17 * j ≤ 600000; omega, by show 50000 + 3085 * j ≤ 7302250; omega⟩
  rw [fL_28] at h
  refine lv_aload_n hx hb dL_law_1184 rfl (lv_at hl 1 rfl) ?_
  refine lv_aload_n hx hb dL_law_1185 rfl (lv_at hl 0 rfl) ?_
  refine lv_iload_n hx hb dL_law_1186 rfl (lv_at hl 3 rfl) ?_
  refine lv_iconst (v := nI 1) hx hb dL_law_1187 (by decide) ?_
  refine rScr (q := 1) CL hd hL hj (by decide) dL_law_1188 dL_law_1189 ?_
  refine lv_aload_n hx hb dL_law_1190 rfl (lv_at hl 0 rfl) ?_
  refine lv_iload_n hx hb dL_law_1191 rfl (lv_at hl 3 rfl) ?_
  refine lv_iconst (v := nI 2) hx hb dL_law_1192 (by decide) ?_
  refine rScr (q := 2) CL hd hL hj (by decide) dL_law_1193 dL_law_1194 ?_
  obtain ⟨r1, σ1, er1, h⟩ := cal2_e h
  refine rCallI C hd (c_X7_best hE er1) kL_134 0 rfl rfl rfl rfl hl.1 rfl (Nat.le_of_ble_eq_true rfl) ⟨(Nat.le_of_ble_eq_true rfl), (Nat.le_of_ble_eq_true rfl)⟩ hcs dL_law_1195 (fun H locs hd => ?_)
  refine lv_aload_n hx hb dL_law_1198 rfl (lv_at hl 2 rfl) ?_
  refine lv_aload_n hx hb dL_law_1199 rfl (lv_at hl 0 rfl) ?_
  refine lv_iload_n hx hb dL_law_1200 rfl (lv_at hl 3 rfl) ?_
  refine lv_iconst (v := nI 1) hx hb dL_law_1201 (by decide) ?_
  refine rScr (q := 1) CL hd hL hj (by decide) dL_law_1202 dL_law_1203 ?_
  refine lv_aload_n hx hb dL_law_1204 rfl (lv_at hl 0 rfl) ?_
  refine lv_iload_n hx hb dL_law_1205 rfl (lv_at hl 3 rfl) ?_
  refine lv_iconst (v := nI 2) hx hb dL_law_1206 (by decide) ?_
  refine rScr (q := 2) CL hd hL hj (by decide) dL_law_1207 dL_law_1208 ?_
  have hd : Dy g (wM g τ ++ (wD g σ1 ++ slW g ex β)) s _ _ := Dy.perm hd wl_perm
  obtain ⟨r2, τ1, er2, h⟩ := cal2_e h
  refine rCallI C hd (c_X8_best hE er2) kL_137 0 rfl rfl rfl rfl hl.1 rfl (Nat.le_of_ble_eq_true rfl) ⟨(Nat.le_of_ble_eq_true rfl), (Nat.le_of_ble_eq_true rfl)⟩ hcs dL_law_1209 (fun H locs hd => ?_)
  have hd : Dy g (wD g σ1 ++ (slW g ex β ++ wM g τ1)) s _ _ := Dy.perm hd wl_perm.symm
  refine lv_icmp_eq (tgt := 1863) hx hb dL_law_1212 (by decide) (fun c9 => ?_) (fun c9 => ?_)
  · replace h := iteT c9 h
    refine W.widen (k := 100 + 17 * (j + 1)) (n := 50000 + 3085 * (j + 1)) (by omega) (by omega) ?_
    exact hK _ _ _ _ h g _ _ _ CL hd hl
  · replace h := iteF c9 h
    exact absurd (Option.some.inj h) (by decide)

set_option maxRecDepth 100000 in
set_option maxHeartbeats 4000000 in
theorem lc_29 {p : Program} {l : Launch} {e : Env} {s : State} {m : MethodId} {below : List Frame} {meth : Method} {c : Code} {g : Gp} {b L j F : Nat} {xs : Nat → Int32} {K : Kt} {σ τ : St} {ex : Nat → Bool} {β : Nat → St} {H : Heap} {locs : List Loc} {ls : Array Slot} (CL : LC g p s m b L xs meth c) (hL : L ≤ 3072) (hj : 6 * j + 6 ≤ L) (h : fL_29 F j xs K σ τ ex β = some 1)
    (hK : ∀ (σ τ : St) (ex : Nat → Bool) (β : Nat → St), K σ τ ex β = some 1 → ∀ (g : Gp) (H : Heap) (locs : List Loc) (ls : Array Slot), LC g p s m b L xs meth c → Dy g (wD g σ ++ (slW g ex β ++ wM g τ)) s H locs → lv_has ls 4 [(0, .ref b), (1, .ref (ga g 0)), (2, .ref (ga g 40)), (3, .int (nI (6 * j)))] → W p l e room_1 s m #[Value.ref b] below meth c H locs (100 + 17 * (j + 1)) (50000 + 3085 * (j + 1)) (lw_Z below #[Value.ref b] s) (F0 m 1863 ls []))
    (hd : Dy g (wD g σ ++ (slW g ex β ++ wM g τ)) s H locs) (hl : lv_has ls 4 [(0, .ref b), (1, .ref (ga g 0)), (2, .ref (ga g 40)), (3, .int (nI (6 * j)))]) : W p l e room_1 s m #[Value.ref b] below meth c H locs (100 + 17 * j) (50000 + 3085 * j) (lw_Z below #[Value.ref b] s) (F0 m 1217 ls []) := by
  have C := CL.1
  have hx := C.1
  have hb := C.2.1
  have hE := C.2.2.2.2.2.2.2.2
  have hcs : 100 + 17 * j ≤ room_1.cells ∧ 50000 + 3085 * j ≤ room_1.slots := ⟨by show 100 + 17 * j ≤ 600000; omega, by show 50000 + 3085 * j ≤ 7302250; omega⟩
  rw [fL_29] at h
  refine lv_aload_n hx hb dL_law_1217 rfl (lv_at hl 1 rfl) ?_
  refine lv_aload_n hx hb dL_law_1218 rfl (lv_at hl 0 rfl) ?_
  refine lv_iload_n hx hb dL_law_1219 rfl (lv_at hl 3 rfl) ?_
  refine lv_iconst (v := nI 1) hx hb dL_law_1220 (by decide) ?_
  refine rScr (q := 1) CL hd hL hj (by decide) dL_law_1221 dL_law_1222 ?_
  refine lv_aload_n hx hb dL_law_1223 rfl (lv_at hl 0 rfl) ?_
  refine lv_iload_n hx hb dL_law_1224 rfl (lv_at hl 3 rfl) ?_
  refine lv_iconst (v := nI 2) hx hb dL_law_1225 (by decide) ?_
  refine rScr (q := 2) CL hd hL hj (by decide) dL_law_1226 dL_law_1227 ?_
  obtain ⟨r1, σ1, er1, h⟩ := cal2_e h
  refine rCallI C hd (c_X7_pinned hE er1) kL_138 0 rfl rfl rfl rfl hl.1 rfl (Nat.le_of_ble_eq_true rfl) ⟨(Nat.le_of_ble_eq_true rfl), (Nat.le_of_ble_eq_true rfl)⟩ hcs dL_law_1228 (fun H locs hd => ?_)
  refine lv_aload_n hx hb dL_law_1231 rfl (lv_at hl 2 rfl) ?_
  refine lv_aload_n hx hb dL_law_1232 rfl (lv_at hl 0 rfl) ?_
  refine lv_iload_n hx hb dL_law_1233 rfl (lv_at hl 3 rfl) ?_
  refine lv_iconst (v := nI 1) hx hb dL_law_1234 (by decide) ?_
  refine rScr (q := 1) CL hd hL hj (by decide) dL_law_1235 dL_law_1236 ?_
  refine lv_aload_n hx hb dL_law_1237 rfl (lv_at hl 0 rfl) ?_
  refine lv_iload_n hx hb dL_law_1238 rfl (lv_at hl 3 rfl) ?_
  refine lv_iconst (v := nI 2) hx hb dL_law_1239 (by decide) ?_
  refine rScr (q := 2) CL hd hL hj (by decide) dL_law_1240 dL_law_1241 ?_
  have hd : Dy g (wM g τ ++ (wD g σ1 ++ slW g ex β)) s _ _ := Dy.perm hd wl_perm
  obtain ⟨r2, τ1, er2, h⟩ := cal2_e h
  refine rCallI C hd (c_X8_pinned hE er2) kL_141 0 rfl rfl rfl rfl hl.1 rfl (Nat.le_of_ble_eq_true rfl) ⟨(Nat.le_of_ble_eq_true rfl), (Nat.le_of_ble_eq_true rfl)⟩ hcs dL_law_1242 (fun H locs hd => ?_)
  have hd : Dy g (wD g σ1 ++ (slW g ex β ++ wM g τ1)) s _ _ := Dy.perm hd wl_perm.symm
  refine lv_icmp_eq (tgt := 1863) hx hb dL_law_1245 (by decide) (fun c9 => ?_) (fun c9 => ?_)
  · replace h := iteT c9 h
    refine W.widen (k := 100 + 17 * (j + 1)) (n := 50000 + 3085 * (j + 1)) (by omega) (by omega) ?_
    exact hK _ _ _ _ h g _ _ _ CL hd hl
  · replace h := iteF c9 h
    exact absurd (Option.some.inj h) (by decide)

set_option maxRecDepth 100000 in
set_option maxHeartbeats 4000000 in
theorem lc_30 {p : Program} {l : Launch} {e : Env} {s : State} {m : MethodId} {below : List Frame} {meth : Method} {c : Code} {g : Gp} {b L j F : Nat} {xs : Nat → Int32} {K : Kt} {σ τ : St} {ex : Nat → Bool} {β : Nat → St} {H : Heap} {locs : List Loc} {ls : Array Slot} (CL : LC g p s m b L xs meth c) (hL : L ≤ 3072) (hj : 6 * j + 6 ≤ L) (h : fL_30 F j xs K σ τ ex β = some 1)
    (hK : ∀ (σ τ : St) (ex : Nat → Bool) (β : Nat → St), K σ τ ex β = some 1 → ∀ (g : Gp) (H : Heap) (locs : List Loc) (ls : Array Slot), LC g p s m b L xs meth c → Dy g (wD g σ ++ (slW g ex β ++ wM g τ)) s H locs → lv_has ls 4 [(0, .ref b), (1, .ref (ga g 0)), (2, .ref (ga g 40)), (3, .int (nI (6 * j)))] → W p l e room_1 s m #[Value.ref b] below meth c H locs (100 + 17 * (j + 1)) (50000 + 3085 * (j + 1)) (lw_Z below #[Value.ref b] s) (F0 m 1863 ls []))
    (hd : Dy g (wD g σ ++ (slW g ex β ++ wM g τ)) s H locs) (hl : lv_has ls 4 [(0, .ref b), (1, .ref (ga g 0)), (2, .ref (ga g 40)), (3, .int (nI (6 * j)))]) : W p l e room_1 s m #[Value.ref b] below meth c H locs (100 + 17 * j) (50000 + 3085 * j) (lw_Z below #[Value.ref b] s) (F0 m 1250 ls []) := by
  have C := CL.1
  have hx := C.1
  have hb := C.2.1
  have hE := C.2.2.2.2.2.2.2.2
  have hcs : 100 + 17 * j ≤ room_1.cells ∧ 50000 + 3085 * j ≤ room_1.slots := ⟨by show 100 + 17 * j ≤ 600000; omega, by show 50000 + 3085 * j ≤ 7302250; omega⟩
  rw [fL_30] at h
  refine lv_aload_n hx hb dL_law_1250 rfl (lv_at hl 1 rfl) ?_
  refine lv_aload_n hx hb dL_law_1251 rfl (lv_at hl 0 rfl) ?_
  refine lv_iload_n hx hb dL_law_1252 rfl (lv_at hl 3 rfl) ?_
  refine lv_iconst (v := nI 1) hx hb dL_law_1253 (by decide) ?_
  refine rScr (q := 1) CL hd hL hj (by decide) dL_law_1254 dL_law_1255 ?_
  obtain ⟨r1, er1, h⟩ := cal_e h
  refine rCallI C hd (c_X7_dirty hE er1) kL_142 0 rfl rfl rfl rfl hl.1 rfl (Nat.le_of_ble_eq_true rfl) ⟨(Nat.le_of_ble_eq_true rfl), (Nat.le_of_ble_eq_true rfl)⟩ hcs dL_law_1256 (fun H locs hd => ?_)
  refine lv_aload_n hx hb dL_law_1259 rfl (lv_at hl 2 rfl) ?_
  refine lv_aload_n hx hb dL_law_1260 rfl (lv_at hl 0 rfl) ?_
  refine lv_iload_n hx hb dL_law_1261 rfl (lv_at hl 3 rfl) ?_
  refine lv_iconst (v := nI 1) hx hb dL_law_1262 (by decide) ?_
  refine rScr (q := 1) CL hd hL hj (by decide) dL_law_1263 dL_law_1264 ?_
  have hd : Dy g (wM g τ ++ (wD g σ ++ slW g ex β)) s _ _ := Dy.perm hd wl_perm
  obtain ⟨r2, er2, h⟩ := cal_e h
  refine rCallI C hd (c_X8_dirty hE er2) kL_145 0 rfl rfl rfl rfl hl.1 rfl (Nat.le_of_ble_eq_true rfl) ⟨(Nat.le_of_ble_eq_true rfl), (Nat.le_of_ble_eq_true rfl)⟩ hcs dL_law_1265 (fun H locs hd => ?_)
  have hd : Dy g (wD g σ ++ (slW g ex β ++ wM g τ)) s _ _ := Dy.perm hd wl_perm.symm
  refine lv_icmp_eq (tgt := 1863) hx hb dL_law_1268 (by decide) (fun c9 => ?_) (fun c9 => ?_)
  · replace h := iteT c9 h
    refine W.widen (k := 100 + 17 * (j + 1)) (n := 50000 + 3085 * (j + 1)) (by omega) (by omega) ?_
    exact hK _ _ _ _ h g _ _ _ CL hd hl
  · replace h := iteF c9 h
    exact absurd (Option.some.inj h) (by decide)

set_option maxRecDepth 100000 in
set_option maxHeartbeats 4000000 in
theorem lc_31 {p : Program} {l : Launch} {e : Env} {s : State} {m : MethodId} {below : List Frame} {meth : Method} {c : Code} {g : Gp} {b L j F : Nat} {xs : Nat → Int32} {K : Kt} {σ τ : St} {ex : Nat → Bool} {β : Nat → St} {H : Heap} {locs : List Loc} {ls : Array Slot} (CL : LC g p s m b L xs meth c) (hL : L ≤ 3072) (hj : 6 * j + 6 ≤ L) (h : fL_31 F j xs K σ τ ex β = some 1)
    (hK : ∀ (σ τ : St) (ex : Nat → Bool) (β : Nat → St), K σ τ ex β = some 1 → ∀ (g : Gp) (H : Heap) (locs : List Loc) (ls : Array Slot), LC g p s m b L xs meth c → Dy g (wD g σ ++ (slW g ex β ++ wM g τ)) s H locs → lv_has ls 4 [(0, .ref b), (1, .ref (ga g 0)), (2, .ref (ga g 40)), (3, .int (nI (6 * j)))] → W p l e room_1 s m #[Value.ref b] below meth c H locs (100 + 17 * (j + 1)) (50000 + 3085 * (j + 1)) (lw_Z below #[Value.ref b] s) (F0 m 1863 ls []))
    (hd : Dy g (wD g σ ++ (slW g ex β ++ wM g τ)) s H locs) (hl : lv_has ls 4 [(0, .ref b), (1, .ref (ga g 0)), (2, .ref (ga g 40)), (3, .int (nI (6 * j)))]) : W p l e room_1 s m #[Value.ref b] below meth c H locs (100 + 17 * j) (50000 + 3085 * j) (lw_Z below #[Value.ref b] s) (F0 m 1273 ls []) := by
  have C := CL.1
  have hx := C.1
  have hb := C.2.1
  have hE := C.2.2.2.2.2.2.2.2
  have hcs : 100 + 17 * j ≤ room_1.cells ∧ 50000 + 3085 * j ≤ room_1.slots := ⟨by show 100 + 17 * j ≤ 600000; omega, by show 50000 + 3085 * j ≤ 7302250; omega⟩
  rw [fL_31] at h
  refine lv_aload_n hx hb dL_law_1273 rfl (lv_at hl 1 rfl) ?_
  refine lv_aload_n hx hb dL_law_1274 rfl (lv_at hl 0 rfl) ?_
  refine lv_iload_n hx hb dL_law_1275 rfl (lv_at hl 3 rfl) ?_
  refine lv_iconst (v := nI 1) hx hb dL_law_1276 (by decide) ?_
  refine rScr (q := 1) CL hd hL hj (by decide) dL_law_1277 dL_law_1278 ?_
  refine lv_aload_n hx hb dL_law_1279 rfl (lv_at hl 0 rfl) ?_
  refine lv_iload_n hx hb dL_law_1280 rfl (lv_at hl 3 rfl) ?_
  refine lv_iconst (v := nI 2) hx hb dL_law_1281 (by decide) ?_
  refine rScr (q := 2) CL hd hL hj (by decide) dL_law_1282 dL_law_1283 ?_
  obtain ⟨r1, er1, h⟩ := cal_e h
  refine rCallI C hd (c_X7_common hE er1) kL_146 0 rfl rfl rfl rfl hl.1 rfl (Nat.le_of_ble_eq_true rfl) ⟨(Nat.le_of_ble_eq_true rfl), (Nat.le_of_ble_eq_true rfl)⟩ hcs dL_law_1284 (fun H locs hd => ?_)
  refine lv_aload_n hx hb dL_law_1287 rfl (lv_at hl 2 rfl) ?_
  refine lv_aload_n hx hb dL_law_1288 rfl (lv_at hl 0 rfl) ?_
  refine lv_iload_n hx hb dL_law_1289 rfl (lv_at hl 3 rfl) ?_
  refine lv_iconst (v := nI 1) hx hb dL_law_1290 (by decide) ?_
  refine rScr (q := 1) CL hd hL hj (by decide) dL_law_1291 dL_law_1292 ?_
  refine lv_aload_n hx hb dL_law_1293 rfl (lv_at hl 0 rfl) ?_
  refine lv_iload_n hx hb dL_law_1294 rfl (lv_at hl 3 rfl) ?_
  refine lv_iconst (v := nI 2) hx hb dL_law_1295 (by decide) ?_
  refine rScr (q := 2) CL hd hL hj (by decide) dL_law_1296 dL_law_1297 ?_
  have hd : Dy g (wM g τ ++ (wD g σ ++ slW g ex β)) s _ _ := Dy.perm hd wl_perm
  obtain ⟨r2, er2, h⟩ := cal_e h
  refine rCallI C hd (c_X8_common hE er2) kL_149 0 rfl rfl rfl rfl hl.1 rfl (Nat.le_of_ble_eq_true rfl) ⟨(Nat.le_of_ble_eq_true rfl), (Nat.le_of_ble_eq_true rfl)⟩ hcs dL_law_1298 (fun H locs hd => ?_)
  have hd : Dy g (wD g σ ++ (slW g ex β ++ wM g τ)) s _ _ := Dy.perm hd wl_perm.symm
  refine lv_icmp_eq (tgt := 1863) hx hb dL_law_1301 (by decide) (fun c9 => ?_) (fun c9 => ?_)
  · replace h := iteT c9 h
    refine W.widen (k := 100 + 17 * (j + 1)) (n := 50000 + 3085 * (j + 1)) (by omega) (by omega) ?_
    exact hK _ _ _ _ h g _ _ _ CL hd hl
  · replace h := iteF c9 h
    exact absurd (Option.some.inj h) (by decide)

set_option maxRecDepth 100000 in
set_option maxHeartbeats 4000000 in
theorem lc_32 {p : Program} {l : Launch} {e : Env} {s : State} {m : MethodId} {below : List Frame} {meth : Method} {c : Code} {g : Gp} {b L j F : Nat} {xs : Nat → Int32} {K : Kt} {σ τ : St} {ex : Nat → Bool} {β : Nat → St} {H : Heap} {locs : List Loc} {ls : Array Slot} (CL : LC g p s m b L xs meth c) (hL : L ≤ 3072) (hj : 6 * j + 6 ≤ L) (h : fL_32 F j xs K σ τ ex β = some 1)
    (hK : ∀ (σ τ : St) (ex : Nat → Bool) (β : Nat → St), K σ τ ex β = some 1 → ∀ (g : Gp) (H : Heap) (locs : List Loc) (ls : Array Slot), LC g p s m b L xs meth c → Dy g (wD g σ ++ (slW g ex β ++ wM g τ)) s H locs → lv_has ls 4 [(0, .ref b), (1, .ref (ga g 0)), (2, .ref (ga g 40)), (3, .int (nI (6 * j)))] → W p l e room_1 s m #[Value.ref b] below meth c H locs (100 + 17 * (j + 1)) (50000 + 3085 * (j + 1)) (lw_Z below #[Value.ref b] s) (F0 m 1863 ls []))
    (hd : Dy g (wD g σ ++ (slW g ex β ++ wM g τ)) s H locs) (hl : lv_has ls 4 [(0, .ref b), (1, .ref (ga g 0)), (2, .ref (ga g 40)), (3, .int (nI (6 * j)))]) : W p l e room_1 s m #[Value.ref b] below meth c H locs (100 + 17 * j) (50000 + 3085 * j) (lw_Z below #[Value.ref b] s) (F0 m 1306 ls []) := by
  have C := CL.1
  have hx := C.1
  have hb := C.2.1
  have hE := C.2.2.2.2.2.2.2.2
  have hcs : 100 + 17 * j ≤ room_1.cells ∧ 50000 + 3085 * j ≤ room_1.slots := ⟨by show 100 + 17 * j ≤ 600000; omega, by show 50000 + 3085 * j ≤ 7302250; omega⟩
  rw [fL_32] at h
  refine lv_aload_n hx hb dL_law_1306 rfl (lv_at hl 1 rfl) ?_
  refine lv_aload_n hx hb dL_law_1307 rfl (lv_at hl 0 rfl) ?_
  refine lv_iload_n hx hb dL_law_1308 rfl (lv_at hl 3 rfl) ?_
  refine lv_iconst (v := nI 1) hx hb dL_law_1309 (by decide) ?_
  refine rScr (q := 1) CL hd hL hj (by decide) dL_law_1310 dL_law_1311 ?_
  refine lv_aload_n hx hb dL_law_1312 rfl (lv_at hl 0 rfl) ?_
  refine lv_iload_n hx hb dL_law_1313 rfl (lv_at hl 3 rfl) ?_
  refine lv_iconst (v := nI 2) hx hb dL_law_1314 (by decide) ?_
  refine rScr (q := 2) CL hd hL hj (by decide) dL_law_1315 dL_law_1316 ?_
  obtain ⟨r1, er1, h⟩ := cal_e h
  refine rCallI C hd (c_X7_gaps hE er1) kL_150 0 rfl rfl rfl rfl hl.1 rfl (Nat.le_of_ble_eq_true rfl) ⟨(Nat.le_of_ble_eq_true rfl), (Nat.le_of_ble_eq_true rfl)⟩ hcs dL_law_1317 (fun H locs hd => ?_)
  refine lv_aload_n hx hb dL_law_1320 rfl (lv_at hl 2 rfl) ?_
  refine lv_aload_n hx hb dL_law_1321 rfl (lv_at hl 0 rfl) ?_
  refine lv_iload_n hx hb dL_law_1322 rfl (lv_at hl 3 rfl) ?_
  refine lv_iconst (v := nI 1) hx hb dL_law_1323 (by decide) ?_
  refine rScr (q := 1) CL hd hL hj (by decide) dL_law_1324 dL_law_1325 ?_
  refine lv_aload_n hx hb dL_law_1326 rfl (lv_at hl 0 rfl) ?_
  refine lv_iload_n hx hb dL_law_1327 rfl (lv_at hl 3 rfl) ?_
  refine lv_iconst (v := nI 2) hx hb dL_law_1328 (by decide) ?_
  refine rScr (q := 2) CL hd hL hj (by decide) dL_law_1329 dL_law_1330 ?_
  have hd : Dy g (wM g τ ++ (wD g σ ++ slW g ex β)) s _ _ := Dy.perm hd wl_perm
  obtain ⟨r2, er2, h⟩ := cal_e h
  refine rCallI C hd (c_X8_gaps hE er2) kL_153 0 rfl rfl rfl rfl hl.1 rfl (Nat.le_of_ble_eq_true rfl) ⟨(Nat.le_of_ble_eq_true rfl), (Nat.le_of_ble_eq_true rfl)⟩ hcs dL_law_1331 (fun H locs hd => ?_)
  have hd : Dy g (wD g σ ++ (slW g ex β ++ wM g τ)) s _ _ := Dy.perm hd wl_perm.symm
  refine lv_icmp_eq (tgt := 1863) hx hb dL_law_1334 (by decide) (fun c9 => ?_) (fun c9 => ?_)
  · replace h := iteT c9 h
    refine W.widen (k := 100 + 17 * (j + 1)) (n := 50000 + 3085 * (j + 1)) (by omega) (by omega) ?_
    exact hK _ _ _ _ h g _ _ _ CL hd hl
  · replace h := iteF c9 h
    exact absurd (Option.some.inj h) (by decide)

set_option maxRecDepth 100000 in
set_option maxHeartbeats 4000000 in
theorem lc_33 {p : Program} {l : Launch} {e : Env} {s : State} {m : MethodId} {below : List Frame} {meth : Method} {c : Code} {g : Gp} {b L j F : Nat} {xs : Nat → Int32} {K : Kt} {σ τ : St} {ex : Nat → Bool} {β : Nat → St} {H : Heap} {locs : List Loc} {ls : Array Slot} (CL : LC g p s m b L xs meth c) (hL : L ≤ 3072) (hj : 6 * j + 6 ≤ L) (h : fL_33 F j xs K σ τ ex β = some 1)
    (hK : ∀ (σ τ : St) (ex : Nat → Bool) (β : Nat → St), K σ τ ex β = some 1 → ∀ (g : Gp) (H : Heap) (locs : List Loc) (ls : Array Slot), LC g p s m b L xs meth c → Dy g (wD g σ ++ (slW g ex β ++ wM g τ)) s H locs → lv_has ls 4 [(0, .ref b), (1, .ref (ga g 0)), (2, .ref (ga g 40)), (3, .int (nI (6 * j)))] → W p l e room_1 s m #[Value.ref b] below meth c H locs (100 + 17 * (j + 1)) (50000 + 3085 * (j + 1)) (lw_Z below #[Value.ref b] s) (F0 m 1863 ls []))
    (hd : Dy g (wD g σ ++ (slW g ex β ++ wM g τ)) s H locs) (hl : lv_has ls 4 [(0, .ref b), (1, .ref (ga g 0)), (2, .ref (ga g 40)), (3, .int (nI (6 * j)))]) : W p l e room_1 s m #[Value.ref b] below meth c H locs (100 + 17 * j) (50000 + 3085 * j) (lw_Z below #[Value.ref b] s) (F0 m 1339 ls []) := by
  have C := CL.1
  have hx := C.1
  have hb := C.2.1
  have hE := C.2.2.2.2.2.2.2.2
  have hcs : 100 + 17 * j ≤ room_1.cells ∧ 50000 + 3085 * j ≤ room_1.slots := ⟨by show 100 + 17 * j ≤ 600000; omega, by show 50000 + 3085 * j ≤ 7302250; omega⟩
  rw [fL_33] at h
  refine lv_aload_n hx hb dL_law_1339 rfl (lv_at hl 1 rfl) ?_
  refine lv_aload_n hx hb dL_law_1340 rfl (lv_at hl 0 rfl) ?_
  refine lv_iload_n hx hb dL_law_1341 rfl (lv_at hl 3 rfl) ?_
  refine lv_iconst (v := nI 1) hx hb dL_law_1342 (by decide) ?_
  refine rScr (q := 1) CL hd hL hj (by decide) dL_law_1343 dL_law_1344 ?_
  refine lv_aload_n hx hb dL_law_1345 rfl (lv_at hl 0 rfl) ?_
  refine lv_iload_n hx hb dL_law_1346 rfl (lv_at hl 3 rfl) ?_
  refine lv_iconst (v := nI 2) hx hb dL_law_1347 (by decide) ?_
  refine rScr (q := 2) CL hd hL hj (by decide) dL_law_1348 dL_law_1349 ?_
  refine lv_aload_n hx hb dL_law_1350 rfl (lv_at hl 0 rfl) ?_
  refine lv_iload_n hx hb dL_law_1351 rfl (lv_at hl 3 rfl) ?_
  refine lv_iconst (v := nI 3) hx hb dL_law_1352 (by decide) ?_
  refine rScr (q := 3) CL hd hL hj (by decide) dL_law_1353 dL_law_1354 ?_
  suffices hq : W p l e room_1 s m #[Value.ref b] below meth c H locs (100 + 17 * j) (50000 + 3085 * j) (lw_Z below #[Value.ref b] s) (F0 m 1363 ls [.int (bz (xs (6 * j + 3))), .int (xs (6 * j + 2)), .int (xs (6 * j + 1)), .ref (ga g 0)]) from by
    refine lv_if_eq (tgt := 1362) hx hb dL_law_1355 (by decide) (fun c1 => ?_) (fun c1 => ?_)
    · refine lv_iconst (v := 0) hx hb dL_law_1362 (by decide) ?_
      exact rTop (show bz (xs (6 * j + 3)) = 0 from if_pos c1) hq
    · refine lv_iconst (v := 1) hx hb dL_law_1358 (by decide) ?_
      refine lv_goto (tgt := 1363) hx hb dL_law_1359 (by decide) ?_
      exact rTop (show bz (xs (6 * j + 3)) = 1 from if_neg c1) hq
  obtain ⟨r1, er1, h⟩ := cal_e h
  refine rCallI C hd (c_X7_stop hE er1) kL_154 0 rfl rfl rfl rfl hl.1 rfl (Nat.le_of_ble_eq_true rfl) ⟨(Nat.le_of_ble_eq_true rfl), (Nat.le_of_ble_eq_true rfl)⟩ hcs dL_law_1363 (fun H locs hd => ?_)
  refine lv_aload_n hx hb dL_law_1366 rfl (lv_at hl 2 rfl) ?_
  refine lv_aload_n hx hb dL_law_1367 rfl (lv_at hl 0 rfl) ?_
  refine lv_iload_n hx hb dL_law_1368 rfl (lv_at hl 3 rfl) ?_
  refine lv_iconst (v := nI 1) hx hb dL_law_1369 (by decide) ?_
  refine rScr (q := 1) CL hd hL hj (by decide) dL_law_1370 dL_law_1371 ?_
  refine lv_aload_n hx hb dL_law_1372 rfl (lv_at hl 0 rfl) ?_
  refine lv_iload_n hx hb dL_law_1373 rfl (lv_at hl 3 rfl) ?_
  refine lv_iconst (v := nI 2) hx hb dL_law_1374 (by decide) ?_
  refine rScr (q := 2) CL hd hL hj (by decide) dL_law_1375 dL_law_1376 ?_
  refine lv_aload_n hx hb dL_law_1377 rfl (lv_at hl 0 rfl) ?_
  refine lv_iload_n hx hb dL_law_1378 rfl (lv_at hl 3 rfl) ?_
  refine lv_iconst (v := nI 3) hx hb dL_law_1379 (by decide) ?_
  refine rScr (q := 3) CL hd hL hj (by decide) dL_law_1380 dL_law_1381 ?_
  suffices hq : W p l e room_1 s m #[Value.ref b] below meth c H locs (100 + 17 * j) (50000 + 3085 * j) (lw_Z below #[Value.ref b] s) (F0 m 1390 ls [.int (bz (xs (6 * j + 3))), .int (xs (6 * j + 2)), .int (xs (6 * j + 1)), .ref (ga g 40), .int r1]) from by
    refine lv_if_eq (tgt := 1389) hx hb dL_law_1382 (by decide) (fun c1 => ?_) (fun c1 => ?_)
    · refine lv_iconst (v := 0) hx hb dL_law_1389 (by decide) ?_
      exact rTop (show bz (xs (6 * j + 3)) = 0 from if_pos c1) hq
    · refine lv_iconst (v := 1) hx hb dL_law_1385 (by decide) ?_
      refine lv_goto (tgt := 1390) hx hb dL_law_1386 (by decide) ?_
      exact rTop (show bz (xs (6 * j + 3)) = 1 from if_neg c1) hq
  have hd : Dy g (wM g τ ++ (wD g σ ++ slW g ex β)) s _ _ := Dy.perm hd wl_perm
  obtain ⟨r2, er2, h⟩ := cal_e h
  refine rCallI C hd (c_X8_stop hE er2) kL_158 0 rfl rfl rfl rfl hl.1 rfl (Nat.le_of_ble_eq_true rfl) ⟨(Nat.le_of_ble_eq_true rfl), (Nat.le_of_ble_eq_true rfl)⟩ hcs dL_law_1390 (fun H locs hd => ?_)
  have hd : Dy g (wD g σ ++ (slW g ex β ++ wM g τ)) s _ _ := Dy.perm hd wl_perm.symm
  refine lv_icmp_eq (tgt := 1863) hx hb dL_law_1393 (by decide) (fun c9 => ?_) (fun c9 => ?_)
  · replace h := iteT c9 h
    refine W.widen (k := 100 + 17 * (j + 1)) (n := 50000 + 3085 * (j + 1)) (by omega) (by omega) ?_
    exact hK _ _ _ _ h g _ _ _ CL hd hl
  · replace h := iteF c9 h
    exact absurd (Option.some.inj h) (by decide)

set_option maxRecDepth 100000 in
set_option maxHeartbeats 4000000 in
theorem lc_34 {p : Program} {l : Launch} {e : Env} {s : State} {m : MethodId} {below : List Frame} {meth : Method} {c : Code} {g : Gp} {b L j F : Nat} {xs : Nat → Int32} {K : Kt} {σ τ : St} {ex : Nat → Bool} {β : Nat → St} {H : Heap} {locs : List Loc} {ls : Array Slot} (CL : LC g p s m b L xs meth c) (hL : L ≤ 3072) (hj : 6 * j + 6 ≤ L) (h : fL_34 F j xs K σ τ ex β = some 1)
    (hK : ∀ (σ τ : St) (ex : Nat → Bool) (β : Nat → St), K σ τ ex β = some 1 → ∀ (g : Gp) (H : Heap) (locs : List Loc) (ls : Array Slot), LC g p s m b L xs meth c → Dy g (wD g σ ++ (slW g ex β ++ wM g τ)) s H locs → lv_has ls 4 [(0, .ref b), (1, .ref (ga g 0)), (2, .ref (ga g 40)), (3, .int (nI (6 * j)))] → W p l e room_1 s m #[Value.ref b] below meth c H locs (100 + 17 * (j + 1)) (50000 + 3085 * (j + 1)) (lw_Z below #[Value.ref b] s) (F0 m 1863 ls []))
    (hd : Dy g (wD g σ ++ (slW g ex β ++ wM g τ)) s H locs) (hl : lv_has ls 4 [(0, .ref b), (1, .ref (ga g 0)), (2, .ref (ga g 40)), (3, .int (nI (6 * j)))]) : W p l e room_1 s m #[Value.ref b] below meth c H locs (100 + 17 * j) (50000 + 3085 * j) (lw_Z below #[Value.ref b] s) (F0 m 1398 ls []) := by
  have C := CL.1
  have hx := C.1
  have hb := C.2.1
  have hE := C.2.2.2.2.2.2.2.2
  have hcs : 100 + 17 * j ≤ room_1.cells ∧ 50000 + 3085 * j ≤ room_1.slots := ⟨by show 100 + 17 * j ≤ 600000; omega, by show 50000 + 3085 * j ≤ 7302250; omega⟩
  rw [fL_34] at h
  refine lv_aload_n hx hb dL_law_1398 rfl (lv_at hl 1 rfl) ?_
  refine lv_aload_n hx hb dL_law_1399 rfl (lv_at hl 0 rfl) ?_
  refine lv_iload_n hx hb dL_law_1400 rfl (lv_at hl 3 rfl) ?_
  refine lv_iconst (v := nI 1) hx hb dL_law_1401 (by decide) ?_
  refine rScr (q := 1) CL hd hL hj (by decide) dL_law_1402 dL_law_1403 ?_
  refine lv_aload_n hx hb dL_law_1404 rfl (lv_at hl 0 rfl) ?_
  refine lv_iload_n hx hb dL_law_1405 rfl (lv_at hl 3 rfl) ?_
  refine lv_iconst (v := nI 2) hx hb dL_law_1406 (by decide) ?_
  refine rScr (q := 2) CL hd hL hj (by decide) dL_law_1407 dL_law_1408 ?_
  refine lv_aload_n hx hb dL_law_1409 rfl (lv_at hl 0 rfl) ?_
  refine lv_iload_n hx hb dL_law_1410 rfl (lv_at hl 3 rfl) ?_
  refine lv_iconst (v := nI 3) hx hb dL_law_1411 (by decide) ?_
  refine rScr (q := 3) CL hd hL hj (by decide) dL_law_1412 dL_law_1413 ?_
  obtain ⟨r1, σ1, er1, h⟩ := cal2_e h
  refine rCallI C hd (c_X7_window hE er1) kL_159 0 rfl rfl rfl rfl hl.1 rfl (Nat.le_of_ble_eq_true rfl) ⟨(Nat.le_of_ble_eq_true rfl), (Nat.le_of_ble_eq_true rfl)⟩ hcs dL_law_1414 (fun H locs hd => ?_)
  refine lv_aload_n hx hb dL_law_1417 rfl (lv_at hl 2 rfl) ?_
  refine lv_aload_n hx hb dL_law_1418 rfl (lv_at hl 0 rfl) ?_
  refine lv_iload_n hx hb dL_law_1419 rfl (lv_at hl 3 rfl) ?_
  refine lv_iconst (v := nI 1) hx hb dL_law_1420 (by decide) ?_
  refine rScr (q := 1) CL hd hL hj (by decide) dL_law_1421 dL_law_1422 ?_
  refine lv_aload_n hx hb dL_law_1423 rfl (lv_at hl 0 rfl) ?_
  refine lv_iload_n hx hb dL_law_1424 rfl (lv_at hl 3 rfl) ?_
  refine lv_iconst (v := nI 2) hx hb dL_law_1425 (by decide) ?_
  refine rScr (q := 2) CL hd hL hj (by decide) dL_law_1426 dL_law_1427 ?_
  refine lv_aload_n hx hb dL_law_1428 rfl (lv_at hl 0 rfl) ?_
  refine lv_iload_n hx hb dL_law_1429 rfl (lv_at hl 3 rfl) ?_
  refine lv_iconst (v := nI 3) hx hb dL_law_1430 (by decide) ?_
  refine rScr (q := 3) CL hd hL hj (by decide) dL_law_1431 dL_law_1432 ?_
  have hd : Dy g (wM g τ ++ (wD g σ1 ++ slW g ex β)) s _ _ := Dy.perm hd wl_perm
  obtain ⟨r2, τ1, er2, h⟩ := cal2_e h
  refine rCallI C hd (c_X8_window hE er2) kL_162 0 rfl rfl rfl rfl hl.1 rfl (Nat.le_of_ble_eq_true rfl) ⟨(Nat.le_of_ble_eq_true rfl), (Nat.le_of_ble_eq_true rfl)⟩ hcs dL_law_1433 (fun H locs hd => ?_)
  have hd : Dy g (wD g σ1 ++ (slW g ex β ++ wM g τ1)) s _ _ := Dy.perm hd wl_perm.symm
  refine lv_icmp_eq (tgt := 1863) hx hb dL_law_1436 (by decide) (fun c9 => ?_) (fun c9 => ?_)
  · replace h := iteT c9 h
    refine W.widen (k := 100 + 17 * (j + 1)) (n := 50000 + 3085 * (j + 1)) (by omega) (by omega) ?_
    exact hK _ _ _ _ h g _ _ _ CL hd hl
  · replace h := iteF c9 h
    exact absurd (Option.some.inj h) (by decide)

set_option maxRecDepth 100000 in
set_option maxHeartbeats 4000000 in
theorem lc_35 {p : Program} {l : Launch} {e : Env} {s : State} {m : MethodId} {below : List Frame} {meth : Method} {c : Code} {g : Gp} {b L j F : Nat} {xs : Nat → Int32} {K : Kt} {σ τ : St} {ex : Nat → Bool} {β : Nat → St} {H : Heap} {locs : List Loc} {ls : Array Slot} (CL : LC g p s m b L xs meth c) (hL : L ≤ 3072) (hj : 6 * j + 6 ≤ L) (h : fL_35 F j xs K σ τ ex β = some 1)
    (hK : ∀ (σ τ : St) (ex : Nat → Bool) (β : Nat → St), K σ τ ex β = some 1 → ∀ (g : Gp) (H : Heap) (locs : List Loc) (ls : Array Slot), LC g p s m b L xs meth c → Dy g (wD g σ ++ (slW g ex β ++ wM g τ)) s H locs → lv_has ls 4 [(0, .ref b), (1, .ref (ga g 0)), (2, .ref (ga g 40)), (3, .int (nI (6 * j)))] → W p l e room_1 s m #[Value.ref b] below meth c H locs (100 + 17 * (j + 1)) (50000 + 3085 * (j + 1)) (lw_Z below #[Value.ref b] s) (F0 m 1863 ls []))
    (hd : Dy g (wD g σ ++ (slW g ex β ++ wM g τ)) s H locs) (hl : lv_has ls 4 [(0, .ref b), (1, .ref (ga g 0)), (2, .ref (ga g 40)), (3, .int (nI (6 * j)))]) : W p l e room_1 s m #[Value.ref b] below meth c H locs (100 + 17 * j) (50000 + 3085 * j) (lw_Z below #[Value.ref b] s) (F0 m 1441 ls []) := by
  have C := CL.1
  have hx := C.1
  have hb := C.2.1
  have hE := C.2.2.2.2.2.2.2.2
  have hcs : 100 + 17 * j ≤ room_1.cells ∧ 50000 + 3085 * j ≤ room_1.slots := ⟨by show 100 + 17 * j ≤ 600000; omega, by show 50000 + 3085 * j ≤ 7302250; omega⟩
  rw [fL_35] at h
  refine lv_aload_n hx hb dL_law_1441 rfl (lv_at hl 1 rfl) ?_
  refine lv_aload_n hx hb dL_law_1442 rfl (lv_at hl 0 rfl) ?_
  refine lv_iload_n hx hb dL_law_1443 rfl (lv_at hl 3 rfl) ?_
  refine lv_iconst (v := nI 1) hx hb dL_law_1444 (by decide) ?_
  refine rScr (q := 1) CL hd hL hj (by decide) dL_law_1445 dL_law_1446 ?_
  obtain ⟨r1, σ1, er1, h⟩ := cal2_e h
  refine rCallI C hd (c_X7_reach hE er1) kL_163 0 rfl rfl rfl rfl hl.1 rfl (Nat.le_of_ble_eq_true rfl) ⟨(Nat.le_of_ble_eq_true rfl), (Nat.le_of_ble_eq_true rfl)⟩ hcs dL_law_1447 (fun H locs hd => ?_)
  refine lv_aload_n hx hb dL_law_1450 rfl (lv_at hl 2 rfl) ?_
  refine lv_aload_n hx hb dL_law_1451 rfl (lv_at hl 0 rfl) ?_
  refine lv_iload_n hx hb dL_law_1452 rfl (lv_at hl 3 rfl) ?_
  refine lv_iconst (v := nI 1) hx hb dL_law_1453 (by decide) ?_
  refine rScr (q := 1) CL hd hL hj (by decide) dL_law_1454 dL_law_1455 ?_
  have hd : Dy g (wM g τ ++ (wD g σ1 ++ slW g ex β)) s _ _ := Dy.perm hd wl_perm
  obtain ⟨r2, τ1, er2, h⟩ := cal2_e h
  refine rCallI C hd (c_X8_reach hE er2) kL_166 0 rfl rfl rfl rfl hl.1 rfl (Nat.le_of_ble_eq_true rfl) ⟨(Nat.le_of_ble_eq_true rfl), (Nat.le_of_ble_eq_true rfl)⟩ hcs dL_law_1456 (fun H locs hd => ?_)
  have hd : Dy g (wD g σ1 ++ (slW g ex β ++ wM g τ1)) s _ _ := Dy.perm hd wl_perm.symm
  refine lv_icmp_eq (tgt := 1863) hx hb dL_law_1459 (by decide) (fun c9 => ?_) (fun c9 => ?_)
  · replace h := iteT c9 h
    refine W.widen (k := 100 + 17 * (j + 1)) (n := 50000 + 3085 * (j + 1)) (by omega) (by omega) ?_
    exact hK _ _ _ _ h g _ _ _ CL hd hl
  · replace h := iteF c9 h
    exact absurd (Option.some.inj h) (by decide)

set_option maxRecDepth 100000 in
set_option maxHeartbeats 4000000 in
theorem lc_36 {p : Program} {l : Launch} {e : Env} {s : State} {m : MethodId} {below : List Frame} {meth : Method} {c : Code} {g : Gp} {b L j F : Nat} {xs : Nat → Int32} {K : Kt} {σ τ : St} {ex : Nat → Bool} {β : Nat → St} {H : Heap} {locs : List Loc} {ls : Array Slot} (CL : LC g p s m b L xs meth c) (hL : L ≤ 3072) (hj : 6 * j + 6 ≤ L) (h : fL_36 F j xs K σ τ ex β = some 1)
    (hK : ∀ (σ τ : St) (ex : Nat → Bool) (β : Nat → St), K σ τ ex β = some 1 → ∀ (g : Gp) (H : Heap) (locs : List Loc) (ls : Array Slot), LC g p s m b L xs meth c → Dy g (wD g σ ++ (slW g ex β ++ wM g τ)) s H locs → lv_has ls 4 [(0, .ref b), (1, .ref (ga g 0)), (2, .ref (ga g 40)), (3, .int (nI (6 * j)))] → W p l e room_1 s m #[Value.ref b] below meth c H locs (100 + 17 * (j + 1)) (50000 + 3085 * (j + 1)) (lw_Z below #[Value.ref b] s) (F0 m 1863 ls []))
    (hd : Dy g (wD g σ ++ (slW g ex β ++ wM g τ)) s H locs) (hl : lv_has ls 4 [(0, .ref b), (1, .ref (ga g 0)), (2, .ref (ga g 40)), (3, .int (nI (6 * j)))]) : W p l e room_1 s m #[Value.ref b] below meth c H locs (100 + 17 * j) (50000 + 3085 * j) (lw_Z below #[Value.ref b] s) (F0 m 1464 ls []) := by
  have C := CL.1
  have hx := C.1
  have hb := C.2.1
  have hE := C.2.2.2.2.2.2.2.2
  have hcs : 100 + 17 * j ≤ room_1.cells ∧ 50000 + 3085 * j ≤ room_1.slots := ⟨by show 100 + 17 * j ≤ 600000; omega, by show 50000 + 3085 * j ≤ 7302250; omega⟩
  rw [fL_36] at h
  refine lv_aload_n hx hb dL_law_1464 rfl (lv_at hl 1 rfl) ?_
  obtain ⟨r1, σ1, er1, h⟩ := cal2_e h
  refine rCallI C hd (c_X7_spare hE er1) kL_167 0 rfl rfl rfl rfl hl.1 rfl (Nat.le_of_ble_eq_true rfl) ⟨(Nat.le_of_ble_eq_true rfl), (Nat.le_of_ble_eq_true rfl)⟩ hcs dL_law_1465 (fun H locs hd => ?_)
  refine lv_aload_n hx hb dL_law_1468 rfl (lv_at hl 2 rfl) ?_
  have hd : Dy g (wM g τ ++ (wD g σ1 ++ slW g ex β)) s _ _ := Dy.perm hd wl_perm
  obtain ⟨r2, τ1, er2, h⟩ := cal2_e h
  refine rCallI C hd (c_X8_spare hE er2) kL_170 0 rfl rfl rfl rfl hl.1 rfl (Nat.le_of_ble_eq_true rfl) ⟨(Nat.le_of_ble_eq_true rfl), (Nat.le_of_ble_eq_true rfl)⟩ hcs dL_law_1469 (fun H locs hd => ?_)
  have hd : Dy g (wD g σ1 ++ (slW g ex β ++ wM g τ1)) s _ _ := Dy.perm hd wl_perm.symm
  refine lv_icmp_eq (tgt := 1863) hx hb dL_law_1472 (by decide) (fun c9 => ?_) (fun c9 => ?_)
  · replace h := iteT c9 h
    refine W.widen (k := 100 + 17 * (j + 1)) (n := 50000 + 3085 * (j + 1)) (by omega) (by omega) ?_
    exact hK _ _ _ _ h g _ _ _ CL hd hl
  · replace h := iteF c9 h
    exact absurd (Option.some.inj h) (by decide)

set_option maxRecDepth 100000 in
set_option maxHeartbeats 4000000 in
theorem lc_37 {p : Program} {l : Launch} {e : Env} {s : State} {m : MethodId} {below : List Frame} {meth : Method} {c : Code} {g : Gp} {b L j F : Nat} {xs : Nat → Int32} {K : Kt} {σ τ : St} {ex : Nat → Bool} {β : Nat → St} {H : Heap} {locs : List Loc} {ls : Array Slot} (CL : LC g p s m b L xs meth c) (hL : L ≤ 3072) (hj : 6 * j + 6 ≤ L) (h : fL_37 F j xs K σ τ ex β = some 1)
    (hK : ∀ (σ τ : St) (ex : Nat → Bool) (β : Nat → St), K σ τ ex β = some 1 → ∀ (g : Gp) (H : Heap) (locs : List Loc) (ls : Array Slot), LC g p s m b L xs meth c → Dy g (wD g σ ++ (slW g ex β ++ wM g τ)) s H locs → lv_has ls 4 [(0, .ref b), (1, .ref (ga g 0)), (2, .ref (ga g 40)), (3, .int (nI (6 * j)))] → W p l e room_1 s m #[Value.ref b] below meth c H locs (100 + 17 * (j + 1)) (50000 + 3085 * (j + 1)) (lw_Z below #[Value.ref b] s) (F0 m 1863 ls []))
    (hd : Dy g (wD g σ ++ (slW g ex β ++ wM g τ)) s H locs) (hl : lv_has ls 4 [(0, .ref b), (1, .ref (ga g 0)), (2, .ref (ga g 40)), (3, .int (nI (6 * j)))]) : W p l e room_1 s m #[Value.ref b] below meth c H locs (100 + 17 * j) (50000 + 3085 * j) (lw_Z below #[Value.ref b] s) (F0 m 1477 ls []) := by
  have C := CL.1
  have hx := C.1
  have hb := C.2.1
  have hE := C.2.2.2.2.2.2.2.2
  have hcs : 100 + 17 * j ≤ room_1.cells ∧ 50000 + 3085 * j ≤ room_1.slots := ⟨by show 100 + 17 * j ≤ 600000; omega, by show 50000 + 3085 * j ≤ 7302250; omega⟩
  rw [fL_37] at h
  refine lv_aload_n hx hb dL_law_1477 rfl (lv_at hl 1 rfl) ?_
  refine lv_aload_n hx hb dL_law_1478 rfl (lv_at hl 0 rfl) ?_
  refine lv_iload_n hx hb dL_law_1479 rfl (lv_at hl 3 rfl) ?_
  refine lv_iconst (v := nI 1) hx hb dL_law_1480 (by decide) ?_
  refine rScr (q := 1) CL hd hL hj (by decide) dL_law_1481 dL_law_1482 ?_
  refine lv_aload_n hx hb dL_law_1483 rfl (lv_at hl 0 rfl) ?_
  refine lv_iload_n hx hb dL_law_1484 rfl (lv_at hl 3 rfl) ?_
  refine lv_iconst (v := nI 2) hx hb dL_law_1485 (by decide) ?_
  refine rScr (q := 2) CL hd hL hj (by decide) dL_law_1486 dL_law_1487 ?_
  obtain ⟨r1, σ1, er1, h⟩ := cal2_e h
  refine rCallI C hd (c_X7_hurts hE er1) kL_171 0 rfl rfl rfl rfl hl.1 rfl (Nat.le_of_ble_eq_true rfl) ⟨(Nat.le_of_ble_eq_true rfl), (Nat.le_of_ble_eq_true rfl)⟩ hcs dL_law_1488 (fun H locs hd => ?_)
  refine lv_aload_n hx hb dL_law_1491 rfl (lv_at hl 2 rfl) ?_
  refine lv_aload_n hx hb dL_law_1492 rfl (lv_at hl 0 rfl) ?_
  refine lv_iload_n hx hb dL_law_1493 rfl (lv_at hl 3 rfl) ?_
  refine lv_iconst (v := nI 1) hx hb dL_law_1494 (by decide) ?_
  refine rScr (q := 1) CL hd hL hj (by decide) dL_law_1495 dL_law_1496 ?_
  refine lv_aload_n hx hb dL_law_1497 rfl (lv_at hl 0 rfl) ?_
  refine lv_iload_n hx hb dL_law_1498 rfl (lv_at hl 3 rfl) ?_
  refine lv_iconst (v := nI 2) hx hb dL_law_1499 (by decide) ?_
  refine rScr (q := 2) CL hd hL hj (by decide) dL_law_1500 dL_law_1501 ?_
  have hd : Dy g (wM g τ ++ (wD g σ1 ++ slW g ex β)) s _ _ := Dy.perm hd wl_perm
  obtain ⟨r2, τ1, er2, h⟩ := cal2_e h
  refine rCallI C hd (c_X8_hurts hE er2) kL_174 0 rfl rfl rfl rfl hl.1 rfl (Nat.le_of_ble_eq_true rfl) ⟨(Nat.le_of_ble_eq_true rfl), (Nat.le_of_ble_eq_true rfl)⟩ hcs dL_law_1502 (fun H locs hd => ?_)
  have hd : Dy g (wD g σ1 ++ (slW g ex β ++ wM g τ1)) s _ _ := Dy.perm hd wl_perm.symm
  refine lv_icmp_eq (tgt := 1863) hx hb dL_law_1505 (by decide) (fun c9 => ?_) (fun c9 => ?_)
  · replace h := iteT c9 h
    refine W.widen (k := 100 + 17 * (j + 1)) (n := 50000 + 3085 * (j + 1)) (by omega) (by omega) ?_
    exact hK _ _ _ _ h g _ _ _ CL hd hl
  · replace h := iteF c9 h
    exact absurd (Option.some.inj h) (by decide)

set_option maxRecDepth 100000 in
set_option maxHeartbeats 4000000 in
theorem lc_38 {p : Program} {l : Launch} {e : Env} {s : State} {m : MethodId} {below : List Frame} {meth : Method} {c : Code} {g : Gp} {b L j F : Nat} {xs : Nat → Int32} {K : Kt} {σ τ : St} {ex : Nat → Bool} {β : Nat → St} {H : Heap} {locs : List Loc} {ls : Array Slot} (CL : LC g p s m b L xs meth c) (hL : L ≤ 3072) (hj : 6 * j + 6 ≤ L) (h : fL_38 F j xs K σ τ ex β = some 1)
    (hK : ∀ (σ τ : St) (ex : Nat → Bool) (β : Nat → St), K σ τ ex β = some 1 → ∀ (g : Gp) (H : Heap) (locs : List Loc) (ls : Array Slot), LC g p s m b L xs meth c → Dy g (wD g σ ++ (slW g ex β ++ wM g τ)) s H locs → lv_has ls 4 [(0, .ref b), (1, .ref (ga g 0)), (2, .ref (ga g 40)), (3, .int (nI (6 * j)))] → W p l e room_1 s m #[Value.ref b] below meth c H locs (100 + 17 * (j + 1)) (50000 + 3085 * (j + 1)) (lw_Z below #[Value.ref b] s) (F0 m 1863 ls []))
    (hd : Dy g (wD g σ ++ (slW g ex β ++ wM g τ)) s H locs) (hl : lv_has ls 4 [(0, .ref b), (1, .ref (ga g 0)), (2, .ref (ga g 40)), (3, .int (nI (6 * j)))]) : W p l e room_1 s m #[Value.ref b] below meth c H locs (100 + 17 * j) (50000 + 3085 * j) (lw_Z below #[Value.ref b] s) (F0 m 1510 ls []) := by
  have C := CL.1
  have hx := C.1
  have hb := C.2.1
  have hE := C.2.2.2.2.2.2.2.2
  have hcs : 100 + 17 * j ≤ room_1.cells ∧ 50000 + 3085 * j ≤ room_1.slots := ⟨by show 100 + 17 * j ≤ 600000; omega, by show 50000 + 3085 * j ≤ 7302250; omega⟩
  rw [fL_38] at h
  refine lv_aload_n hx hb dL_law_1510 rfl (lv_at hl 1 rfl) ?_
  refine lv_aload_n hx hb dL_law_1511 rfl (lv_at hl 0 rfl) ?_
  refine lv_iload_n hx hb dL_law_1512 rfl (lv_at hl 3 rfl) ?_
  refine lv_iconst (v := nI 1) hx hb dL_law_1513 (by decide) ?_
  refine rScr (q := 1) CL hd hL hj (by decide) dL_law_1514 dL_law_1515 ?_
  obtain ⟨r1, σ1, er1, h⟩ := cal2_e h
  refine rCallI C hd (c_X7_newest hE er1) kL_175 0 rfl rfl rfl rfl hl.1 rfl (Nat.le_of_ble_eq_true rfl) ⟨(Nat.le_of_ble_eq_true rfl), (Nat.le_of_ble_eq_true rfl)⟩ hcs dL_law_1516 (fun H locs hd => ?_)
  refine lv_aload_n hx hb dL_law_1519 rfl (lv_at hl 2 rfl) ?_
  refine lv_aload_n hx hb dL_law_1520 rfl (lv_at hl 0 rfl) ?_
  refine lv_iload_n hx hb dL_law_1521 rfl (lv_at hl 3 rfl) ?_
  refine lv_iconst (v := nI 1) hx hb dL_law_1522 (by decide) ?_
  refine rScr (q := 1) CL hd hL hj (by decide) dL_law_1523 dL_law_1524 ?_
  have hd : Dy g (wM g τ ++ (wD g σ1 ++ slW g ex β)) s _ _ := Dy.perm hd wl_perm
  obtain ⟨r2, τ1, er2, h⟩ := cal2_e h
  refine rCallI C hd (c_X8_newest hE er2) kL_178 0 rfl rfl rfl rfl hl.1 rfl (Nat.le_of_ble_eq_true rfl) ⟨(Nat.le_of_ble_eq_true rfl), (Nat.le_of_ble_eq_true rfl)⟩ hcs dL_law_1525 (fun H locs hd => ?_)
  have hd : Dy g (wD g σ1 ++ (slW g ex β ++ wM g τ1)) s _ _ := Dy.perm hd wl_perm.symm
  refine lv_icmp_eq (tgt := 1863) hx hb dL_law_1528 (by decide) (fun c9 => ?_) (fun c9 => ?_)
  · replace h := iteT c9 h
    refine W.widen (k := 100 + 17 * (j + 1)) (n := 50000 + 3085 * (j + 1)) (by omega) (by omega) ?_
    exact hK _ _ _ _ h g _ _ _ CL hd hl
  · replace h := iteF c9 h
    exact absurd (Option.some.inj h) (by decide)

set_option maxRecDepth 100000 in
set_option maxHeartbeats 4000000 in
theorem lc_39 {p : Program} {l : Launch} {e : Env} {s : State} {m : MethodId} {below : List Frame} {meth : Method} {c : Code} {g : Gp} {b L j F : Nat} {xs : Nat → Int32} {K : Kt} {σ τ : St} {ex : Nat → Bool} {β : Nat → St} {H : Heap} {locs : List Loc} {ls : Array Slot} (CL : LC g p s m b L xs meth c) (hL : L ≤ 3072) (hj : 6 * j + 6 ≤ L) (h : fL_39 F j xs K σ τ ex β = some 1)
    (hK : ∀ (σ τ : St) (ex : Nat → Bool) (β : Nat → St), K σ τ ex β = some 1 → ∀ (g : Gp) (H : Heap) (locs : List Loc) (ls : Array Slot), LC g p s m b L xs meth c → Dy g (wD g σ ++ (slW g ex β ++ wM g τ)) s H locs → lv_has ls 4 [(0, .ref b), (1, .ref (ga g 0)), (2, .ref (ga g 40)), (3, .int (nI (6 * j)))] → W p l e room_1 s m #[Value.ref b] below meth c H locs (100 + 17 * (j + 1)) (50000 + 3085 * (j + 1)) (lw_Z below #[Value.ref b] s) (F0 m 1863 ls []))
    (hd : Dy g (wD g σ ++ (slW g ex β ++ wM g τ)) s H locs) (hl : lv_has ls 4 [(0, .ref b), (1, .ref (ga g 0)), (2, .ref (ga g 40)), (3, .int (nI (6 * j)))]) : W p l e room_1 s m #[Value.ref b] below meth c H locs (100 + 17 * j) (50000 + 3085 * j) (lw_Z below #[Value.ref b] s) (F0 m 1533 ls []) := by
  have C := CL.1
  have hx := C.1
  have hb := C.2.1
  have hE := C.2.2.2.2.2.2.2.2
  have hcs : 100 + 17 * j ≤ room_1.cells ∧ 50000 + 3085 * j ≤ room_1.slots := ⟨by show 100 + 17 * j ≤ 600000; omega, by show 50000 + 3085 * j ≤ 7302250; omega⟩
  rw [fL_39] at h
  refine lv_aload_n hx hb dL_law_1533 rfl (lv_at hl 1 rfl) ?_
  refine lv_aload_n hx hb dL_law_1534 rfl (lv_at hl 0 rfl) ?_
  refine lv_iload_n hx hb dL_law_1535 rfl (lv_at hl 3 rfl) ?_
  refine lv_iconst (v := nI 1) hx hb dL_law_1536 (by decide) ?_
  refine rScr (q := 1) CL hd hL hj (by decide) dL_law_1537 dL_law_1538 ?_
  obtain ⟨r1, er1, h⟩ := cal_e h
  refine rCallI C hd (c_X7_age hE er1) kL_179 0 rfl rfl rfl rfl hl.1 rfl (Nat.le_of_ble_eq_true rfl) ⟨(Nat.le_of_ble_eq_true rfl), (Nat.le_of_ble_eq_true rfl)⟩ hcs dL_law_1539 (fun H locs hd => ?_)
  refine lv_aload_n hx hb dL_law_1542 rfl (lv_at hl 2 rfl) ?_
  refine lv_aload_n hx hb dL_law_1543 rfl (lv_at hl 0 rfl) ?_
  refine lv_iload_n hx hb dL_law_1544 rfl (lv_at hl 3 rfl) ?_
  refine lv_iconst (v := nI 1) hx hb dL_law_1545 (by decide) ?_
  refine rScr (q := 1) CL hd hL hj (by decide) dL_law_1546 dL_law_1547 ?_
  have hd : Dy g (wM g τ ++ (wD g σ ++ slW g ex β)) s _ _ := Dy.perm hd wl_perm
  obtain ⟨r2, er2, h⟩ := cal_e h
  refine rCallI C hd (c_X8_age hE er2) kL_182 0 rfl rfl rfl rfl hl.1 rfl (Nat.le_of_ble_eq_true rfl) ⟨(Nat.le_of_ble_eq_true rfl), (Nat.le_of_ble_eq_true rfl)⟩ hcs dL_law_1548 (fun H locs hd => ?_)
  have hd : Dy g (wD g σ ++ (slW g ex β ++ wM g τ)) s _ _ := Dy.perm hd wl_perm.symm
  refine lv_icmp_eq (tgt := 1863) hx hb dL_law_1551 (by decide) (fun c9 => ?_) (fun c9 => ?_)
  · replace h := iteT c9 h
    refine W.widen (k := 100 + 17 * (j + 1)) (n := 50000 + 3085 * (j + 1)) (by omega) (by omega) ?_
    exact hK _ _ _ _ h g _ _ _ CL hd hl
  · replace h := iteF c9 h
    exact absurd (Option.some.inj h) (by decide)

set_option maxRecDepth 100000 in
set_option maxHeartbeats 4000000 in
theorem lc_40 {p : Program} {l : Launch} {e : Env} {s : State} {m : MethodId} {below : List Frame} {meth : Method} {c : Code} {g : Gp} {b L j F : Nat} {xs : Nat → Int32} {K : Kt} {σ τ : St} {ex : Nat → Bool} {β : Nat → St} {H : Heap} {locs : List Loc} {ls : Array Slot} (CL : LC g p s m b L xs meth c) (hL : L ≤ 3072) (hj : 6 * j + 6 ≤ L) (h : fL_40 F j xs K σ τ ex β = some 1)
    (hK : ∀ (σ τ : St) (ex : Nat → Bool) (β : Nat → St), K σ τ ex β = some 1 → ∀ (g : Gp) (H : Heap) (locs : List Loc) (ls : Array Slot), LC g p s m b L xs meth c → Dy g (wD g σ ++ (slW g ex β ++ wM g τ)) s H locs → lv_has ls 4 [(0, .ref b), (1, .ref (ga g 0)), (2, .ref (ga g 40)), (3, .int (nI (6 * j)))] → W p l e room_1 s m #[Value.ref b] below meth c H locs (100 + 17 * (j + 1)) (50000 + 3085 * (j + 1)) (lw_Z below #[Value.ref b] s) (F0 m 1863 ls []))
    (hd : Dy g (wD g σ ++ (slW g ex β ++ wM g τ)) s H locs) (hl : lv_has ls 4 [(0, .ref b), (1, .ref (ga g 0)), (2, .ref (ga g 40)), (3, .int (nI (6 * j)))]) : W p l e room_1 s m #[Value.ref b] below meth c H locs (100 + 17 * j) (50000 + 3085 * j) (lw_Z below #[Value.ref b] s) (F0 m 1556 ls []) := by
  have C := CL.1
  have hx := C.1
  have hb := C.2.1
  have hE := C.2.2.2.2.2.2.2.2
  have hcs : 100 + 17 * j ≤ room_1.cells ∧ 50000 + 3085 * j ≤ room_1.slots := ⟨by show 100 + 17 * j ≤ 600000; omega, by show 50000 + 3085 * j ≤ 7302250; omega⟩
  rw [fL_40] at h
  refine lv_aload_n hx hb dL_law_1556 rfl (lv_at hl 1 rfl) ?_
  refine lv_aload_n hx hb dL_law_1557 rfl (lv_at hl 0 rfl) ?_
  refine lv_iload_n hx hb dL_law_1558 rfl (lv_at hl 3 rfl) ?_
  refine lv_iconst (v := nI 1) hx hb dL_law_1559 (by decide) ?_
  refine rScr (q := 1) CL hd hL hj (by decide) dL_law_1560 dL_law_1561 ?_
  refine lv_aload_n hx hb dL_law_1562 rfl (lv_at hl 0 rfl) ?_
  refine lv_iload_n hx hb dL_law_1563 rfl (lv_at hl 3 rfl) ?_
  refine lv_iconst (v := nI 2) hx hb dL_law_1564 (by decide) ?_
  refine rScr (q := 2) CL hd hL hj (by decide) dL_law_1565 dL_law_1566 ?_
  refine lv_aload_n hx hb dL_law_1567 rfl (lv_at hl 0 rfl) ?_
  refine lv_iload_n hx hb dL_law_1568 rfl (lv_at hl 3 rfl) ?_
  refine lv_iconst (v := nI 3) hx hb dL_law_1569 (by decide) ?_
  refine rScr (q := 3) CL hd hL hj (by decide) dL_law_1570 dL_law_1571 ?_
  obtain ⟨r1, σ1, er1, h⟩ := cal2_e h
  refine rCallI C hd (c_X7_work hE er1) kL_183 0 rfl rfl rfl rfl hl.1 rfl (Nat.le_of_ble_eq_true rfl) ⟨(Nat.le_of_ble_eq_true rfl), (Nat.le_of_ble_eq_true rfl)⟩ hcs dL_law_1572 (fun H locs hd => ?_)
  refine lv_aload_n hx hb dL_law_1575 rfl (lv_at hl 2 rfl) ?_
  refine lv_aload_n hx hb dL_law_1576 rfl (lv_at hl 0 rfl) ?_
  refine lv_iload_n hx hb dL_law_1577 rfl (lv_at hl 3 rfl) ?_
  refine lv_iconst (v := nI 1) hx hb dL_law_1578 (by decide) ?_
  refine rScr (q := 1) CL hd hL hj (by decide) dL_law_1579 dL_law_1580 ?_
  refine lv_aload_n hx hb dL_law_1581 rfl (lv_at hl 0 rfl) ?_
  refine lv_iload_n hx hb dL_law_1582 rfl (lv_at hl 3 rfl) ?_
  refine lv_iconst (v := nI 2) hx hb dL_law_1583 (by decide) ?_
  refine rScr (q := 2) CL hd hL hj (by decide) dL_law_1584 dL_law_1585 ?_
  refine lv_aload_n hx hb dL_law_1586 rfl (lv_at hl 0 rfl) ?_
  refine lv_iload_n hx hb dL_law_1587 rfl (lv_at hl 3 rfl) ?_
  refine lv_iconst (v := nI 3) hx hb dL_law_1588 (by decide) ?_
  refine rScr (q := 3) CL hd hL hj (by decide) dL_law_1589 dL_law_1590 ?_
  have hd : Dy g (wM g τ ++ (wD g σ1 ++ slW g ex β)) s _ _ := Dy.perm hd wl_perm
  obtain ⟨r2, τ1, er2, h⟩ := cal2_e h
  refine rCallI C hd (c_X8_work hE er2) kL_186 0 rfl rfl rfl rfl hl.1 rfl (Nat.le_of_ble_eq_true rfl) ⟨(Nat.le_of_ble_eq_true rfl), (Nat.le_of_ble_eq_true rfl)⟩ hcs dL_law_1591 (fun H locs hd => ?_)
  have hd : Dy g (wD g σ1 ++ (slW g ex β ++ wM g τ1)) s _ _ := Dy.perm hd wl_perm.symm
  refine lv_icmp_eq (tgt := 1863) hx hb dL_law_1594 (by decide) (fun c9 => ?_) (fun c9 => ?_)
  · replace h := iteT c9 h
    refine W.widen (k := 100 + 17 * (j + 1)) (n := 50000 + 3085 * (j + 1)) (by omega) (by omega) ?_
    exact hK _ _ _ _ h g _ _ _ CL hd hl
  · replace h := iteF c9 h
    exact absurd (Option.some.inj h) (by decide)

set_option maxRecDepth 100000 in
set_option maxHeartbeats 4000000 in
theorem lc_41 {p : Program} {l : Launch} {e : Env} {s : State} {m : MethodId} {below : List Frame} {meth : Method} {c : Code} {g : Gp} {b L j F : Nat} {xs : Nat → Int32} {K : Kt} {σ τ : St} {ex : Nat → Bool} {β : Nat → St} {H : Heap} {locs : List Loc} {ls : Array Slot} (CL : LC g p s m b L xs meth c) (hL : L ≤ 3072) (hj : 6 * j + 6 ≤ L) (h : fL_41 F j xs K σ τ ex β = some 1)
    (hK : ∀ (σ τ : St) (ex : Nat → Bool) (β : Nat → St), K σ τ ex β = some 1 → ∀ (g : Gp) (H : Heap) (locs : List Loc) (ls : Array Slot), LC g p s m b L xs meth c → Dy g (wD g σ ++ (slW g ex β ++ wM g τ)) s H locs → lv_has ls 4 [(0, .ref b), (1, .ref (ga g 0)), (2, .ref (ga g 40)), (3, .int (nI (6 * j)))] → W p l e room_1 s m #[Value.ref b] below meth c H locs (100 + 17 * (j + 1)) (50000 + 3085 * (j + 1)) (lw_Z below #[Value.ref b] s) (F0 m 1863 ls []))
    (hd : Dy g (wD g σ ++ (slW g ex β ++ wM g τ)) s H locs) (hl : lv_has ls 4 [(0, .ref b), (1, .ref (ga g 0)), (2, .ref (ga g 40)), (3, .int (nI (6 * j)))]) : W p l e room_1 s m #[Value.ref b] below meth c H locs (100 + 17 * j) (50000 + 3085 * j) (lw_Z below #[Value.ref b] s) (F0 m 1599 ls []) := by
  have C := CL.1
  have hx := C.1
  have hb := C.2.1
  have hE := C.2.2.2.2.2.2.2.2
  have hcs : 100 + 17 * j ≤ room_1.cells ∧ 50000 + 3085 * j ≤ room_1.slots := ⟨by show 100 + 17 * j ≤ 600000; omega, by show 50000 + 3085 * j ≤ 7302250; omega⟩
  rw [fL_41] at h
  refine lv_aload_n hx hb dL_law_1599 rfl (lv_at hl 1 rfl) ?_
  refine lv_aload_n hx hb dL_law_1600 rfl (lv_at hl 0 rfl) ?_
  refine lv_iload_n hx hb dL_law_1601 rfl (lv_at hl 3 rfl) ?_
  refine lv_iconst (v := nI 1) hx hb dL_law_1602 (by decide) ?_
  refine rScr (q := 1) CL hd hL hj (by decide) dL_law_1603 dL_law_1604 ?_
  refine lv_aload_n hx hb dL_law_1605 rfl (lv_at hl 0 rfl) ?_
  refine lv_iload_n hx hb dL_law_1606 rfl (lv_at hl 3 rfl) ?_
  refine lv_iconst (v := nI 2) hx hb dL_law_1607 (by decide) ?_
  refine rScr (q := 2) CL hd hL hj (by decide) dL_law_1608 dL_law_1609 ?_
  refine lv_aload_n hx hb dL_law_1610 rfl (lv_at hl 0 rfl) ?_
  refine lv_iload_n hx hb dL_law_1611 rfl (lv_at hl 3 rfl) ?_
  refine lv_iconst (v := nI 3) hx hb dL_law_1612 (by decide) ?_
  refine rScr (q := 3) CL hd hL hj (by decide) dL_law_1613 dL_law_1614 ?_
  refine lv_aload_n hx hb dL_law_1615 rfl (lv_at hl 0 rfl) ?_
  refine lv_iload_n hx hb dL_law_1616 rfl (lv_at hl 3 rfl) ?_
  refine lv_iconst (v := nI 4) hx hb dL_law_1617 (by decide) ?_
  refine rScr (q := 4) CL hd hL hj (by decide) dL_law_1618 dL_law_1619 ?_
  obtain ⟨r1, er1, h⟩ := cal_e h
  refine rCallI C hd (c_X7_differ hE er1) kL_187 0 rfl rfl rfl rfl hl.1 rfl (Nat.le_of_ble_eq_true rfl) ⟨(Nat.le_of_ble_eq_true rfl), (Nat.le_of_ble_eq_true rfl)⟩ hcs dL_law_1620 (fun H locs hd => ?_)
  refine lv_aload_n hx hb dL_law_1623 rfl (lv_at hl 2 rfl) ?_
  refine lv_aload_n hx hb dL_law_1624 rfl (lv_at hl 0 rfl) ?_
  refine lv_iload_n hx hb dL_law_1625 rfl (lv_at hl 3 rfl) ?_
  refine lv_iconst (v := nI 1) hx hb dL_law_1626 (by decide) ?_
  refine rScr (q := 1) CL hd hL hj (by decide) dL_law_1627 dL_law_1628 ?_
  refine lv_aload_n hx hb dL_law_1629 rfl (lv_at hl 0 rfl) ?_
  refine lv_iload_n hx hb dL_law_1630 rfl (lv_at hl 3 rfl) ?_
  refine lv_iconst (v := nI 2) hx hb dL_law_1631 (by decide) ?_
  refine rScr (q := 2) CL hd hL hj (by decide) dL_law_1632 dL_law_1633 ?_
  refine lv_aload_n hx hb dL_law_1634 rfl (lv_at hl 0 rfl) ?_
  refine lv_iload_n hx hb dL_law_1635 rfl (lv_at hl 3 rfl) ?_
  refine lv_iconst (v := nI 3) hx hb dL_law_1636 (by decide) ?_
  refine rScr (q := 3) CL hd hL hj (by decide) dL_law_1637 dL_law_1638 ?_
  refine lv_aload_n hx hb dL_law_1639 rfl (lv_at hl 0 rfl) ?_
  refine lv_iload_n hx hb dL_law_1640 rfl (lv_at hl 3 rfl) ?_
  refine lv_iconst (v := nI 4) hx hb dL_law_1641 (by decide) ?_
  refine rScr (q := 4) CL hd hL hj (by decide) dL_law_1642 dL_law_1643 ?_
  have hd : Dy g (wM g τ ++ (wD g σ ++ slW g ex β)) s _ _ := Dy.perm hd wl_perm
  obtain ⟨r2, er2, h⟩ := cal_e h
  refine rCallI C hd (c_X8_differ hE er2) kL_190 0 rfl rfl rfl rfl hl.1 rfl (Nat.le_of_ble_eq_true rfl) ⟨(Nat.le_of_ble_eq_true rfl), (Nat.le_of_ble_eq_true rfl)⟩ hcs dL_law_1644 (fun H locs hd => ?_)
  have hd : Dy g (wD g σ ++ (slW g ex β ++ wM g τ)) s _ _ := Dy.perm hd wl_perm.symm
  refine lv_icmp_eq (tgt := 1863) hx hb dL_law_1647 (by decide) (fun c9 => ?_) (fun c9 => ?_)
  · replace h := iteT c9 h
    refine W.widen (k := 100 + 17 * (j + 1)) (n := 50000 + 3085 * (j + 1)) (by omega) (by omega) ?_
    exact hK _ _ _ _ h g _ _ _ CL hd hl
  · replace h := iteF c9 h
    exact absurd (Option.some.inj h) (by decide)

set_option maxRecDepth 100000 in
set_option maxHeartbeats 4000000 in
theorem lc_42 {p : Program} {l : Launch} {e : Env} {s : State} {m : MethodId} {below : List Frame} {meth : Method} {c : Code} {g : Gp} {b L j F : Nat} {xs : Nat → Int32} {K : Kt} {σ τ : St} {ex : Nat → Bool} {β : Nat → St} {H : Heap} {locs : List Loc} {ls : Array Slot} (CL : LC g p s m b L xs meth c) (hL : L ≤ 3072) (hj : 6 * j + 6 ≤ L) (h : fL_42 F j xs K σ τ ex β = some 1)
    (hK : ∀ (σ τ : St) (ex : Nat → Bool) (β : Nat → St), K σ τ ex β = some 1 → ∀ (g : Gp) (H : Heap) (locs : List Loc) (ls : Array Slot), LC g p s m b L xs meth c → Dy g (wD g σ ++ (slW g ex β ++ wM g τ)) s H locs → lv_has ls 4 [(0, .ref b), (1, .ref (ga g 0)), (2, .ref (ga g 40)), (3, .int (nI (6 * j)))] → W p l e room_1 s m #[Value.ref b] below meth c H locs (100 + 17 * (j + 1)) (50000 + 3085 * (j + 1)) (lw_Z below #[Value.ref b] s) (F0 m 1863 ls []))
    (hd : Dy g (wD g σ ++ (slW g ex β ++ wM g τ)) s H locs) (hl : lv_has ls 4 [(0, .ref b), (1, .ref (ga g 0)), (2, .ref (ga g 40)), (3, .int (nI (6 * j)))]) : W p l e room_1 s m #[Value.ref b] below meth c H locs (100 + 17 * j) (50000 + 3085 * j) (lw_Z below #[Value.ref b] s) (F0 m 1652 ls []) := by
  have C := CL.1
  have hx := C.1
  have hb := C.2.1
  have hE := C.2.2.2.2.2.2.2.2
  have hcs : 100 + 17 * j ≤ room_1.cells ∧ 50000 + 3085 * j ≤ room_1.slots := ⟨by show 100 + 17 * j ≤ 600000; omega, by show 50000 + 3085 * j ≤ 7302250; omega⟩
  rw [fL_42] at h
  refine lv_aload_n hx hb dL_law_1652 rfl (lv_at hl 1 rfl) ?_
  refine lv_aload_n hx hb dL_law_1653 rfl (lv_at hl 0 rfl) ?_
  refine lv_iload_n hx hb dL_law_1654 rfl (lv_at hl 3 rfl) ?_
  refine lv_iconst (v := nI 1) hx hb dL_law_1655 (by decide) ?_
  refine rScr (q := 1) CL hd hL hj (by decide) dL_law_1656 dL_law_1657 ?_
  refine lv_aload_n hx hb dL_law_1658 rfl (lv_at hl 0 rfl) ?_
  refine lv_iload_n hx hb dL_law_1659 rfl (lv_at hl 3 rfl) ?_
  refine lv_iconst (v := nI 2) hx hb dL_law_1660 (by decide) ?_
  refine rScr (q := 2) CL hd hL hj (by decide) dL_law_1661 dL_law_1662 ?_
  refine lv_aload_n hx hb dL_law_1663 rfl (lv_at hl 0 rfl) ?_
  refine lv_iload_n hx hb dL_law_1664 rfl (lv_at hl 3 rfl) ?_
  refine lv_iconst (v := nI 3) hx hb dL_law_1665 (by decide) ?_
  refine rScr (q := 3) CL hd hL hj (by decide) dL_law_1666 dL_law_1667 ?_
  obtain ⟨r1, er1, h⟩ := cal_e h
  refine rCallI C hd (c_X7_last hE er1) kL_191 0 rfl rfl rfl rfl hl.1 rfl (Nat.le_of_ble_eq_true rfl) ⟨(Nat.le_of_ble_eq_true rfl), (Nat.le_of_ble_eq_true rfl)⟩ hcs dL_law_1668 (fun H locs hd => ?_)
  refine lv_aload_n hx hb dL_law_1671 rfl (lv_at hl 2 rfl) ?_
  refine lv_aload_n hx hb dL_law_1672 rfl (lv_at hl 0 rfl) ?_
  refine lv_iload_n hx hb dL_law_1673 rfl (lv_at hl 3 rfl) ?_
  refine lv_iconst (v := nI 1) hx hb dL_law_1674 (by decide) ?_
  refine rScr (q := 1) CL hd hL hj (by decide) dL_law_1675 dL_law_1676 ?_
  refine lv_aload_n hx hb dL_law_1677 rfl (lv_at hl 0 rfl) ?_
  refine lv_iload_n hx hb dL_law_1678 rfl (lv_at hl 3 rfl) ?_
  refine lv_iconst (v := nI 2) hx hb dL_law_1679 (by decide) ?_
  refine rScr (q := 2) CL hd hL hj (by decide) dL_law_1680 dL_law_1681 ?_
  refine lv_aload_n hx hb dL_law_1682 rfl (lv_at hl 0 rfl) ?_
  refine lv_iload_n hx hb dL_law_1683 rfl (lv_at hl 3 rfl) ?_
  refine lv_iconst (v := nI 3) hx hb dL_law_1684 (by decide) ?_
  refine rScr (q := 3) CL hd hL hj (by decide) dL_law_1685 dL_law_1686 ?_
  have hd : Dy g (wM g τ ++ (wD g σ ++ slW g ex β)) s _ _ := Dy.perm hd wl_perm
  obtain ⟨r2, er2, h⟩ := cal_e h
  refine rCallI C hd (c_X8_last hE er2) kL_194 0 rfl rfl rfl rfl hl.1 rfl (Nat.le_of_ble_eq_true rfl) ⟨(Nat.le_of_ble_eq_true rfl), (Nat.le_of_ble_eq_true rfl)⟩ hcs dL_law_1687 (fun H locs hd => ?_)
  have hd : Dy g (wD g σ ++ (slW g ex β ++ wM g τ)) s _ _ := Dy.perm hd wl_perm.symm
  refine lv_icmp_eq (tgt := 1863) hx hb dL_law_1690 (by decide) (fun c9 => ?_) (fun c9 => ?_)
  · replace h := iteT c9 h
    refine W.widen (k := 100 + 17 * (j + 1)) (n := 50000 + 3085 * (j + 1)) (by omega) (by omega) ?_
    exact hK _ _ _ _ h g _ _ _ CL hd hl
  · replace h := iteF c9 h
    exact absurd (Option.some.inj h) (by decide)

set_option maxRecDepth 100000 in
set_option maxHeartbeats 4000000 in
theorem lc_43 {p : Program} {l : Launch} {e : Env} {s : State} {m : MethodId} {below : List Frame} {meth : Method} {c : Code} {g : Gp} {b L j F : Nat} {xs : Nat → Int32} {K : Kt} {σ τ : St} {ex : Nat → Bool} {β : Nat → St} {H : Heap} {locs : List Loc} {ls : Array Slot} (CL : LC g p s m b L xs meth c) (hL : L ≤ 3072) (hj : 6 * j + 6 ≤ L) (h : fL_43 F j xs K σ τ ex β = some 1)
    (hK : ∀ (σ τ : St) (ex : Nat → Bool) (β : Nat → St), K σ τ ex β = some 1 → ∀ (g : Gp) (H : Heap) (locs : List Loc) (ls : Array Slot), LC g p s m b L xs meth c → Dy g (wD g σ ++ (slW g ex β ++ wM g τ)) s H locs → lv_has ls 4 [(0, .ref b), (1, .ref (ga g 0)), (2, .ref (ga g 40)), (3, .int (nI (6 * j)))] → W p l e room_1 s m #[Value.ref b] below meth c H locs (100 + 17 * (j + 1)) (50000 + 3085 * (j + 1)) (lw_Z below #[Value.ref b] s) (F0 m 1863 ls []))
    (hd : Dy g (wD g σ ++ (slW g ex β ++ wM g τ)) s H locs) (hl : lv_has ls 4 [(0, .ref b), (1, .ref (ga g 0)), (2, .ref (ga g 40)), (3, .int (nI (6 * j)))]) : W p l e room_1 s m #[Value.ref b] below meth c H locs (100 + 17 * j) (50000 + 3085 * j) (lw_Z below #[Value.ref b] s) (F0 m 1695 ls []) := by
  have C := CL.1
  have hx := C.1
  have hb := C.2.1
  have hE := C.2.2.2.2.2.2.2.2
  have hcs : 100 + 17 * j ≤ room_1.cells ∧ 50000 + 3085 * j ≤ room_1.slots := ⟨by show 100 + 17 * j ≤ 600000; omega, by show 50000 + 3085 * j ≤ 7302250; omega⟩
  rw [fL_43] at h
  refine lv_aload_n hx hb dL_law_1695 rfl (lv_at hl 1 rfl) ?_
  refine lv_aload_n hx hb dL_law_1696 rfl (lv_at hl 0 rfl) ?_
  refine lv_iload_n hx hb dL_law_1697 rfl (lv_at hl 3 rfl) ?_
  refine lv_iconst (v := nI 1) hx hb dL_law_1698 (by decide) ?_
  refine rScr (q := 1) CL hd hL hj (by decide) dL_law_1699 dL_law_1700 ?_
  refine lv_aload_n hx hb dL_law_1701 rfl (lv_at hl 0 rfl) ?_
  refine lv_iload_n hx hb dL_law_1702 rfl (lv_at hl 3 rfl) ?_
  refine lv_iconst (v := nI 2) hx hb dL_law_1703 (by decide) ?_
  refine rScr (q := 2) CL hd hL hj (by decide) dL_law_1704 dL_law_1705 ?_
  obtain ⟨r1, er1, h⟩ := cal_e h
  refine rCallI C hd (c_X7_way hE er1) kL_195 0 rfl rfl rfl rfl hl.1 rfl (Nat.le_of_ble_eq_true rfl) ⟨(Nat.le_of_ble_eq_true rfl), (Nat.le_of_ble_eq_true rfl)⟩ hcs dL_law_1706 (fun H locs hd => ?_)
  refine lv_aload_n hx hb dL_law_1709 rfl (lv_at hl 2 rfl) ?_
  refine lv_aload_n hx hb dL_law_1710 rfl (lv_at hl 0 rfl) ?_
  refine lv_iload_n hx hb dL_law_1711 rfl (lv_at hl 3 rfl) ?_
  refine lv_iconst (v := nI 1) hx hb dL_law_1712 (by decide) ?_
  refine rScr (q := 1) CL hd hL hj (by decide) dL_law_1713 dL_law_1714 ?_
  refine lv_aload_n hx hb dL_law_1715 rfl (lv_at hl 0 rfl) ?_
  refine lv_iload_n hx hb dL_law_1716 rfl (lv_at hl 3 rfl) ?_
  refine lv_iconst (v := nI 2) hx hb dL_law_1717 (by decide) ?_
  refine rScr (q := 2) CL hd hL hj (by decide) dL_law_1718 dL_law_1719 ?_
  have hd : Dy g (wM g τ ++ (wD g σ ++ slW g ex β)) s _ _ := Dy.perm hd wl_perm
  obtain ⟨r2, er2, h⟩ := cal_e h
  refine rCallI C hd (c_X8_way hE er2) kL_198 0 rfl rfl rfl rfl hl.1 rfl (Nat.le_of_ble_eq_true rfl) ⟨(Nat.le_of_ble_eq_true rfl), (Nat.le_of_ble_eq_true rfl)⟩ hcs dL_law_1720 (fun H locs hd => ?_)
  have hd : Dy g (wD g σ ++ (slW g ex β ++ wM g τ)) s _ _ := Dy.perm hd wl_perm.symm
  refine lv_icmp_eq (tgt := 1863) hx hb dL_law_1723 (by decide) (fun c9 => ?_) (fun c9 => ?_)
  · replace h := iteT c9 h
    refine W.widen (k := 100 + 17 * (j + 1)) (n := 50000 + 3085 * (j + 1)) (by omega) (by omega) ?_
    exact hK _ _ _ _ h g _ _ _ CL hd hl
  · replace h := iteF c9 h
    exact absurd (Option.some.inj h) (by decide)

set_option maxRecDepth 100000 in
set_option maxHeartbeats 4000000 in
theorem lc_44 {p : Program} {l : Launch} {e : Env} {s : State} {m : MethodId} {below : List Frame} {meth : Method} {c : Code} {g : Gp} {b L j F : Nat} {xs : Nat → Int32} {K : Kt} {σ τ : St} {ex : Nat → Bool} {β : Nat → St} {H : Heap} {locs : List Loc} {ls : Array Slot} (CL : LC g p s m b L xs meth c) (hL : L ≤ 3072) (hj : 6 * j + 6 ≤ L) (h : fL_44 F j xs K σ τ ex β = some 1)
    (hK : ∀ (σ τ : St) (ex : Nat → Bool) (β : Nat → St), K σ τ ex β = some 1 → ∀ (g : Gp) (H : Heap) (locs : List Loc) (ls : Array Slot), LC g p s m b L xs meth c → Dy g (wD g σ ++ (slW g ex β ++ wM g τ)) s H locs → lv_has ls 4 [(0, .ref b), (1, .ref (ga g 0)), (2, .ref (ga g 40)), (3, .int (nI (6 * j)))] → W p l e room_1 s m #[Value.ref b] below meth c H locs (100 + 17 * (j + 1)) (50000 + 3085 * (j + 1)) (lw_Z below #[Value.ref b] s) (F0 m 1863 ls []))
    (hd : Dy g (wD g σ ++ (slW g ex β ++ wM g τ)) s H locs) (hl : lv_has ls 4 [(0, .ref b), (1, .ref (ga g 0)), (2, .ref (ga g 40)), (3, .int (nI (6 * j)))]) : W p l e room_1 s m #[Value.ref b] below meth c H locs (100 + 17 * j) (50000 + 3085 * j) (lw_Z below #[Value.ref b] s) (F0 m 1728 ls []) := by
  have C := CL.1
  have hx := C.1
  have hb := C.2.1
  have hE := C.2.2.2.2.2.2.2.2
  have hcs : 100 + 17 * j ≤ room_1.cells ∧ 50000 + 3085 * j ≤ room_1.slots := ⟨by show 100 + 17 * j ≤ 600000; omega, by show 50000 + 3085 * j ≤ 7302250; omega⟩
  rw [fL_44] at h
  refine lv_aload_n hx hb dL_law_1728 rfl (lv_at hl 1 rfl) ?_
  refine lv_aload_n hx hb dL_law_1729 rfl (lv_at hl 0 rfl) ?_
  refine lv_iload_n hx hb dL_law_1730 rfl (lv_at hl 3 rfl) ?_
  refine lv_iconst (v := nI 1) hx hb dL_law_1731 (by decide) ?_
  refine rScr (q := 1) CL hd hL hj (by decide) dL_law_1732 dL_law_1733 ?_
  refine lv_aload_n hx hb dL_law_1734 rfl (lv_at hl 0 rfl) ?_
  refine lv_iload_n hx hb dL_law_1735 rfl (lv_at hl 3 rfl) ?_
  refine lv_iconst (v := nI 2) hx hb dL_law_1736 (by decide) ?_
  refine rScr (q := 2) CL hd hL hj (by decide) dL_law_1737 dL_law_1738 ?_
  obtain ⟨r1, er1, h⟩ := cal_e h
  refine rCallI C hd (c_X7_where hE er1) kL_199 0 rfl rfl rfl rfl hl.1 rfl (Nat.le_of_ble_eq_true rfl) ⟨(Nat.le_of_ble_eq_true rfl), (Nat.le_of_ble_eq_true rfl)⟩ hcs dL_law_1739 (fun H locs hd => ?_)
  refine lv_aload_n hx hb dL_law_1742 rfl (lv_at hl 2 rfl) ?_
  refine lv_aload_n hx hb dL_law_1743 rfl (lv_at hl 0 rfl) ?_
  refine lv_iload_n hx hb dL_law_1744 rfl (lv_at hl 3 rfl) ?_
  refine lv_iconst (v := nI 1) hx hb dL_law_1745 (by decide) ?_
  refine rScr (q := 1) CL hd hL hj (by decide) dL_law_1746 dL_law_1747 ?_
  refine lv_aload_n hx hb dL_law_1748 rfl (lv_at hl 0 rfl) ?_
  refine lv_iload_n hx hb dL_law_1749 rfl (lv_at hl 3 rfl) ?_
  refine lv_iconst (v := nI 2) hx hb dL_law_1750 (by decide) ?_
  refine rScr (q := 2) CL hd hL hj (by decide) dL_law_1751 dL_law_1752 ?_
  have hd : Dy g (wM g τ ++ (wD g σ ++ slW g ex β)) s _ _ := Dy.perm hd wl_perm
  obtain ⟨r2, er2, h⟩ := cal_e h
  refine rCallI C hd (c_X8_where hE er2) kL_202 0 rfl rfl rfl rfl hl.1 rfl (Nat.le_of_ble_eq_true rfl) ⟨(Nat.le_of_ble_eq_true rfl), (Nat.le_of_ble_eq_true rfl)⟩ hcs dL_law_1753 (fun H locs hd => ?_)
  have hd : Dy g (wD g σ ++ (slW g ex β ++ wM g τ)) s _ _ := Dy.perm hd wl_perm.symm
  refine lv_icmp_eq (tgt := 1863) hx hb dL_law_1756 (by decide) (fun c9 => ?_) (fun c9 => ?_)
  · replace h := iteT c9 h
    refine W.widen (k := 100 + 17 * (j + 1)) (n := 50000 + 3085 * (j + 1)) (by omega) (by omega) ?_
    exact hK _ _ _ _ h g _ _ _ CL hd hl
  · replace h := iteF c9 h
    exact absurd (Option.some.inj h) (by decide)

set_option maxRecDepth 100000 in
set_option maxHeartbeats 4000000 in
theorem lc_45 {p : Program} {l : Launch} {e : Env} {s : State} {m : MethodId} {below : List Frame} {meth : Method} {c : Code} {g : Gp} {b L j F : Nat} {xs : Nat → Int32} {K : Kt} {σ τ : St} {ex : Nat → Bool} {β : Nat → St} {H : Heap} {locs : List Loc} {ls : Array Slot} (CL : LC g p s m b L xs meth c) (hL : L ≤ 3072) (hj : 6 * j + 6 ≤ L) (h : fL_45 F j xs K σ τ ex β = some 1)
    (hK : ∀ (σ τ : St) (ex : Nat → Bool) (β : Nat → St), K σ τ ex β = some 1 → ∀ (g : Gp) (H : Heap) (locs : List Loc) (ls : Array Slot), LC g p s m b L xs meth c → Dy g (wD g σ ++ (slW g ex β ++ wM g τ)) s H locs → lv_has ls 4 [(0, .ref b), (1, .ref (ga g 0)), (2, .ref (ga g 40)), (3, .int (nI (6 * j)))] → W p l e room_1 s m #[Value.ref b] below meth c H locs (100 + 17 * (j + 1)) (50000 + 3085 * (j + 1)) (lw_Z below #[Value.ref b] s) (F0 m 1863 ls []))
    (hd : Dy g (wD g σ ++ (slW g ex β ++ wM g τ)) s H locs) (hl : lv_has ls 4 [(0, .ref b), (1, .ref (ga g 0)), (2, .ref (ga g 40)), (3, .int (nI (6 * j)))]) : W p l e room_1 s m #[Value.ref b] below meth c H locs (100 + 17 * j) (50000 + 3085 * j) (lw_Z below #[Value.ref b] s) (F0 m 1761 ls []) := by
  have C := CL.1
  have hx := C.1
  have hb := C.2.1
  have hE := C.2.2.2.2.2.2.2.2
  have hcs : 100 + 17 * j ≤ room_1.cells ∧ 50000 + 3085 * j ≤ room_1.slots := ⟨by show 100 + 17 * j ≤ 600000; omega, by show 50000 + 3085 * j ≤ 7302250; omega⟩
  rw [fL_45] at h
  refine lv_aload_n hx hb dL_law_1761 rfl (lv_at hl 1 rfl) ?_
  refine lv_aload_n hx hb dL_law_1762 rfl (lv_at hl 0 rfl) ?_
  refine lv_iload_n hx hb dL_law_1763 rfl (lv_at hl 3 rfl) ?_
  refine lv_iconst (v := nI 1) hx hb dL_law_1764 (by decide) ?_
  refine rScr (q := 1) CL hd hL hj (by decide) dL_law_1765 dL_law_1766 ?_
  refine lv_aload_n hx hb dL_law_1767 rfl (lv_at hl 0 rfl) ?_
  refine lv_iload_n hx hb dL_law_1768 rfl (lv_at hl 3 rfl) ?_
  refine lv_iconst (v := nI 2) hx hb dL_law_1769 (by decide) ?_
  refine rScr (q := 2) CL hd hL hj (by decide) dL_law_1770 dL_law_1771 ?_
  obtain ⟨r1, er1, h⟩ := cal_e h
  refine rCallI C hd (c_X7_busiest hE er1) kL_203 0 rfl rfl rfl rfl hl.1 rfl (Nat.le_of_ble_eq_true rfl) ⟨(Nat.le_of_ble_eq_true rfl), (Nat.le_of_ble_eq_true rfl)⟩ hcs dL_law_1772 (fun H locs hd => ?_)
  refine lv_aload_n hx hb dL_law_1775 rfl (lv_at hl 2 rfl) ?_
  refine lv_aload_n hx hb dL_law_1776 rfl (lv_at hl 0 rfl) ?_
  refine lv_iload_n hx hb dL_law_1777 rfl (lv_at hl 3 rfl) ?_
  refine lv_iconst (v := nI 1) hx hb dL_law_1778 (by decide) ?_
  refine rScr (q := 1) CL hd hL hj (by decide) dL_law_1779 dL_law_1780 ?_
  refine lv_aload_n hx hb dL_law_1781 rfl (lv_at hl 0 rfl) ?_
  refine lv_iload_n hx hb dL_law_1782 rfl (lv_at hl 3 rfl) ?_
  refine lv_iconst (v := nI 2) hx hb dL_law_1783 (by decide) ?_
  refine rScr (q := 2) CL hd hL hj (by decide) dL_law_1784 dL_law_1785 ?_
  have hd : Dy g (wM g τ ++ (wD g σ ++ slW g ex β)) s _ _ := Dy.perm hd wl_perm
  obtain ⟨r2, τ1, er2, h⟩ := cal2_e h
  refine rCallI C hd (c_X8_busiest hE er2) kL_206 0 rfl rfl rfl rfl hl.1 rfl (Nat.le_of_ble_eq_true rfl) ⟨(Nat.le_of_ble_eq_true rfl), (Nat.le_of_ble_eq_true rfl)⟩ hcs dL_law_1786 (fun H locs hd => ?_)
  have hd : Dy g (wD g σ ++ (slW g ex β ++ wM g τ1)) s _ _ := Dy.perm hd wl_perm.symm
  refine lv_icmp_eq (tgt := 1863) hx hb dL_law_1789 (by decide) (fun c9 => ?_) (fun c9 => ?_)
  · replace h := iteT c9 h
    refine W.widen (k := 100 + 17 * (j + 1)) (n := 50000 + 3085 * (j + 1)) (by omega) (by omega) ?_
    exact hK _ _ _ _ h g _ _ _ CL hd hl
  · replace h := iteF c9 h
    exact absurd (Option.some.inj h) (by decide)

set_option maxRecDepth 100000 in
set_option maxHeartbeats 4000000 in
theorem lc_46 {p : Program} {l : Launch} {e : Env} {s : State} {m : MethodId} {below : List Frame} {meth : Method} {c : Code} {g : Gp} {b L j F : Nat} {xs : Nat → Int32} {K : Kt} {σ τ : St} {ex : Nat → Bool} {β : Nat → St} {H : Heap} {locs : List Loc} {ls : Array Slot} (CL : LC g p s m b L xs meth c) (hL : L ≤ 3072) (hj : 6 * j + 6 ≤ L) (h : fL_46 F j xs K σ τ ex β = some 1)
    (hK : ∀ (σ τ : St) (ex : Nat → Bool) (β : Nat → St), K σ τ ex β = some 1 → ∀ (g : Gp) (H : Heap) (locs : List Loc) (ls : Array Slot), LC g p s m b L xs meth c → Dy g (wD g σ ++ (slW g ex β ++ wM g τ)) s H locs → lv_has ls 4 [(0, .ref b), (1, .ref (ga g 0)), (2, .ref (ga g 40)), (3, .int (nI (6 * j)))] → W p l e room_1 s m #[Value.ref b] below meth c H locs (100 + 17 * (j + 1)) (50000 + 3085 * (j + 1)) (lw_Z below #[Value.ref b] s) (F0 m 1863 ls []))
    (hd : Dy g (wD g σ ++ (slW g ex β ++ wM g τ)) s H locs) (hl : lv_has ls 4 [(0, .ref b), (1, .ref (ga g 0)), (2, .ref (ga g 40)), (3, .int (nI (6 * j)))]) : W p l e room_1 s m #[Value.ref b] below meth c H locs (100 + 17 * j) (50000 + 3085 * j) (lw_Z below #[Value.ref b] s) (F0 m 1794 ls []) := by
  have C := CL.1
  have hx := C.1
  have hb := C.2.1
  have hE := C.2.2.2.2.2.2.2.2
  have hcs : 100 + 17 * j ≤ room_1.cells ∧ 50000 + 3085 * j ≤ room_1.slots := ⟨by show 100 + 17 * j ≤ 600000; omega, by show 50000 + 3085 * j ≤ 7302250; omega⟩
  rw [fL_46] at h
  refine lv_aload_n hx hb dL_law_1794 rfl (lv_at hl 1 rfl) ?_
  refine lv_aload_n hx hb dL_law_1795 rfl (lv_at hl 0 rfl) ?_
  refine lv_iload_n hx hb dL_law_1796 rfl (lv_at hl 3 rfl) ?_
  refine lv_iconst (v := nI 1) hx hb dL_law_1797 (by decide) ?_
  refine rScr (q := 1) CL hd hL hj (by decide) dL_law_1798 dL_law_1799 ?_
  obtain ⟨hf, h⟩ := chk h
  have hcs2 : 100 + 17 * j + 17 ≤ room_1.cells ∧ 50000 + 3085 * j + 3085 ≤ room_1.slots := ⟨by show 100 + 17 * j + 17 ≤ 600000; omega, by show 50000 + 3085 * j + 3085 ≤ 7302250; omega⟩
  have hcs' : 100 + 17 * (j + 1) ≤ room_1.cells ∧ 50000 + 3085 * (j + 1) ≤ room_1.slots := ⟨hcs2.1, hcs2.2⟩
  have hd : Dy g ((wD g σ ++ slW g ex β) ++ wM g τ) s H locs := by rw [List.append_assoc]; exact hd
  obtain ⟨hx, hb, hml, hown, hlocks, hts, hKk, hSt, -⟩ := C
  refine va_calli (va_runV (Ts := []) (As := [.int (xs (6 * j + 1))]) (rest := []) ⟨hx, hb, hml, hown, fun _ h => by cases h⟩ (c_X7_hold hE (fitBb_e hf)) ⟨⟨rfl, rfl, (Nat.le_of_ble_eq_true rfl), (Nat.le_of_ble_eq_true rfl), fun w hw a' U hW => by rw [List.mem_singleton.mp hw]; exact word_at hW (good_of_word rfl) (hts _ kL_207.2.2.2.2.1 rfl), List.mem_singleton.mpr rfl, hts _ kL_207.2.2.2.2.1 rfl, hts _ kL_207.2.2.2.1 rfl, kL_207.2.2.2.2.2.1, fun sig h => by have h7 := kL_207.2.2.2.2.2.2; rw [h] at h7; exact (Option.some.inj h7).symm, hts _ kL_207.1 rfl⟩, hts _ kL_207.2.1 rfl, hts _ kL_207.2.2.1 rfl⟩ ⟨Pw.blind, va_recv hKk hd.1 (ci := 8) (q0 := 0) rfl rfl, fun U hU hW => ⟨rfl, hd.pw hSt hU hW⟩⟩ rfl rfl hl.1 rfl (lv_room (Nat.le_of_ble_eq_true rfl)) dL_law_1800 hcs2) hd.2.2 (fun _ _ h => h) (fun _ h => h) (fun r1 u t H1 locs1 ht hvm hw hB1 hz1 hk1 hS1 => ?_)
  obtain ⟨rfl, hu⟩ := hw
  have hE' : E0 (setA g u) := hE.set2 (fun i h1 h2 => hu i (by omega))
  have C' : Cx (setA g u) p s m #[.ref b] meth c code 4 RL := ⟨hx, hb, hml, hown, hlocks, hts, hKk, hSt, hE'⟩
  have CL' : LC (setA g u) p s m b L xs meth c := ⟨C', CL.2.1, CL.2.2.1, CL.2.2.2⟩
  have hl : lv_has ls 4 [(0, .ref b), (1, .ref (ga (setA g u) 0)), (2, .ref (ga (setA g u) 40)), (3, .int (nI (6 * j)))] := by
    rw [show ga (setA g u) 0 = ga g 0 from hu 0 (by omega), show ga (setA g u) 40 = ga g 40 from hu 40 (by omega)]
    exact hl
  have hd : Dy (setA g u) (wD (setA g u) (hS σ (xs (6 * j + 1))) ++ (slW (setA g u) (hX ex (xs (6 * j + 1))) (hB β σ (xs (6 * j + 1))) ++ wM (setA g u) τ)) s H1 locs1 := by
    rw [wM_set (fun i hi => hu i (Or.inl hi)), ← List.append_assoc]
    exact ⟨by rw [← ht]; exact hB1.1, hB1.2.1, hS1⟩
  generalize hH1 : H1 = H at hd ⊢
  refine W.widen (k := 100 + 17 * (j + 1)) (n := 50000 + 3085 * (j + 1)) (by omega) (by omega) ?_
  refine lv_aload_n hx hb dL_law_1803 rfl (lv_at hl 2 rfl) ?_
  refine lv_aload_n hx hb dL_law_1804 rfl (lv_at hl 0 rfl) ?_
  refine lv_iload_n hx hb dL_law_1805 rfl (lv_at hl 3 rfl) ?_
  refine lv_iconst (v := nI 1) hx hb dL_law_1806 (by decide) ?_
  refine rScr (q := 1) CL hd hL hj (by decide) dL_law_1807 dL_law_1808 ?_
  have hd : Dy (setA g u) (wM (setA g u) τ ++ (wD (setA g u) (hS σ (xs (6 * j + 1))) ++ slW (setA g u) (hX ex (xs (6 * j + 1))) (hB β σ (xs (6 * j + 1))))) s _ _ := Dy.perm hd wl_perm
  obtain ⟨r2, τ1, er2, h⟩ := cal2_e h
  refine rCallI C' hd (c_X8_hold hE' er2) kL_210 0 rfl rfl rfl rfl hl.1 rfl (Nat.le_of_ble_eq_true rfl) ⟨(Nat.le_of_ble_eq_true rfl), (Nat.le_of_ble_eq_true rfl)⟩ hcs' dL_law_1809 (fun H locs hd => ?_)
  have hd : Dy (setA g u) (wD (setA g u) (hS σ (xs (6 * j + 1))) ++ (slW (setA g u) (hX ex (xs (6 * j + 1))) (hB β σ (xs (6 * j + 1))) ++ wM (setA g u) τ1)) s _ _ := Dy.perm hd wl_perm.symm
  refine lv_icmp_eq (tgt := 1863) hx hb dL_law_1812 (by decide) (fun c9 => ?_) (fun c9 => ?_)
  · replace h := iteT c9 h
    exact hK _ _ _ _ h (setA g u) _ _ _ CL' hd hl
  · replace h := iteF c9 h
    exact absurd (Option.some.inj h) (by decide)

set_option maxRecDepth 100000 in
set_option maxHeartbeats 4000000 in
theorem lc_47 {p : Program} {l : Launch} {e : Env} {s : State} {m : MethodId} {below : List Frame} {meth : Method} {c : Code} {g : Gp} {b L j F : Nat} {xs : Nat → Int32} {K : Kt} {σ τ : St} {ex : Nat → Bool} {β : Nat → St} {H : Heap} {locs : List Loc} {ls : Array Slot} (CL : LC g p s m b L xs meth c) (hL : L ≤ 3072) (hj : 6 * j + 6 ≤ L) (h : fL_47 F j xs K σ τ ex β = some 1)
    (hK : ∀ (σ τ : St) (ex : Nat → Bool) (β : Nat → St), K σ τ ex β = some 1 → ∀ (g : Gp) (H : Heap) (locs : List Loc) (ls : Array Slot), LC g p s m b L xs meth c → Dy g (wD g σ ++ (slW g ex β ++ wM g τ)) s H locs → lv_has ls 4 [(0, .ref b), (1, .ref (ga g 0)), (2, .ref (ga g 40)), (3, .int (nI (6 * j)))] → W p l e room_1 s m #[Value.ref b] below meth c H locs (100 + 17 * (j + 1)) (50000 + 3085 * (j + 1)) (lw_Z below #[Value.ref b] s) (F0 m 1863 ls []))
    (hd : Dy g (wD g σ ++ (slW g ex β ++ wM g τ)) s H locs) (hl : lv_has ls 4 [(0, .ref b), (1, .ref (ga g 0)), (2, .ref (ga g 40)), (3, .int (nI (6 * j)))]) : W p l e room_1 s m #[Value.ref b] below meth c H locs (100 + 17 * j) (50000 + 3085 * j) (lw_Z below #[Value.ref b] s) (F0 m 1817 ls []) := by
  have C := CL.1
  have hx := C.1
  have hb := C.2.1
  have hE := C.2.2.2.2.2.2.2.2
  have hcs : 100 + 17 * j ≤ room_1.cells ∧ 50000 + 3085 * j ≤ room_1.slots := ⟨by show 100 + 17 * j ≤ 600000; omega, by show 50000 + 3085 * j ≤ 7302250; omega⟩
  rw [fL_47] at h
  refine lv_aload_n hx hb dL_law_1817 rfl (lv_at hl 1 rfl) ?_
  refine lv_aload_n hx hb dL_law_1818 rfl (lv_at hl 0 rfl) ?_
  refine lv_iload_n hx hb dL_law_1819 rfl (lv_at hl 3 rfl) ?_
  refine lv_iconst (v := nI 1) hx hb dL_law_1820 (by decide) ?_
  refine rScr (q := 1) CL hd hL hj (by decide) dL_law_1821 dL_law_1822 ?_
  obtain ⟨hf, h⟩ := chk h
  have hf2 : aok σ ex (xs (6 * j + 1)) = true → fitB (β ((xs (6 * j + 1))).toNatClampNeg) := fun q => fitBb_e (by rw [q] at hf; simpa using hf)
  have hd : Dy g ((wD g σ ++ slW g ex β) ++ wM g τ) s H locs := by rw [List.append_assoc]; exact hd
  refine rCallI C hd (c_X7_again hE hf2) kL_211 0 rfl rfl rfl rfl hl.1 rfl (Nat.le_of_ble_eq_true rfl) ⟨(Nat.le_of_ble_eq_true rfl), (Nat.le_of_ble_eq_true rfl)⟩ hcs dL_law_1823 (fun H locs hd => ?_)
  have hd : Dy g (wD g (aS σ ex β (xs (6 * j + 1))) ++ (slW g ex β ++ wM g τ)) s H locs := by rw [← List.append_assoc]; exact hd
  refine lv_aload_n hx hb dL_law_1826 rfl (lv_at hl 2 rfl) ?_
  refine lv_aload_n hx hb dL_law_1827 rfl (lv_at hl 0 rfl) ?_
  refine lv_iload_n hx hb dL_law_1828 rfl (lv_at hl 3 rfl) ?_
  refine lv_iconst (v := nI 1) hx hb dL_law_1829 (by decide) ?_
  refine rScr (q := 1) CL hd hL hj (by decide) dL_law_1830 dL_law_1831 ?_
  have hd : Dy g (wM g τ ++ (wD g (aS σ ex β (xs (6 * j + 1))) ++ slW g ex β)) s _ _ := Dy.perm hd wl_perm
  obtain ⟨r2, τ1, er2, h⟩ := cal2_e h
  refine rCallI C hd (c_X8_again hE er2) kL_214 0 rfl rfl rfl rfl hl.1 rfl (Nat.le_of_ble_eq_true rfl) ⟨(Nat.le_of_ble_eq_true rfl), (Nat.le_of_ble_eq_true rfl)⟩ hcs dL_law_1832 (fun H locs hd => ?_)
  have hd : Dy g (wD g (aS σ ex β (xs (6 * j + 1))) ++ (slW g ex β ++ wM g τ1)) s _ _ := Dy.perm hd wl_perm.symm
  refine lv_icmp_eq (tgt := 1863) hx hb dL_law_1835 (by decide) (fun c9 => ?_) (fun c9 => ?_)
  · replace h := iteT c9 h
    refine W.widen (k := 100 + 17 * (j + 1)) (n := 50000 + 3085 * (j + 1)) (by omega) (by omega) ?_
    exact hK _ _ _ _ h g _ _ _ CL hd hl
  · replace h := iteF c9 h
    exact absurd (Option.some.inj h) (by decide)

set_option maxRecDepth 100000 in
set_option maxHeartbeats 4000000 in
theorem lc_48 {p : Program} {l : Launch} {e : Env} {s : State} {m : MethodId} {below : List Frame} {meth : Method} {c : Code} {g : Gp} {b L j F : Nat} {xs : Nat → Int32} {K : Kt} {σ τ : St} {ex : Nat → Bool} {β : Nat → St} {H : Heap} {locs : List Loc} {ls : Array Slot} (CL : LC g p s m b L xs meth c) (hL : L ≤ 3072) (hj : 6 * j + 6 ≤ L) (h : fL_48 F j xs K σ τ ex β = some 1)
    (hK : ∀ (σ τ : St) (ex : Nat → Bool) (β : Nat → St), K σ τ ex β = some 1 → ∀ (g : Gp) (H : Heap) (locs : List Loc) (ls : Array Slot), LC g p s m b L xs meth c → Dy g (wD g σ ++ (slW g ex β ++ wM g τ)) s H locs → lv_has ls 4 [(0, .ref b), (1, .ref (ga g 0)), (2, .ref (ga g 40)), (3, .int (nI (6 * j)))] → W p l e room_1 s m #[Value.ref b] below meth c H locs (100 + 17 * (j + 1)) (50000 + 3085 * (j + 1)) (lw_Z below #[Value.ref b] s) (F0 m 1863 ls []))
    (hd : Dy g (wD g σ ++ (slW g ex β ++ wM g τ)) s H locs) (hl : lv_has ls 4 [(0, .ref b), (1, .ref (ga g 0)), (2, .ref (ga g 40)), (3, .int (nI (6 * j)))]) : W p l e room_1 s m #[Value.ref b] below meth c H locs (100 + 17 * j) (50000 + 3085 * j) (lw_Z below #[Value.ref b] s) (F0 m 1840 ls []) := by
  have C := CL.1
  have hx := C.1
  have hb := C.2.1
  have hE := C.2.2.2.2.2.2.2.2
  have hcs : 100 + 17 * j ≤ room_1.cells ∧ 50000 + 3085 * j ≤ room_1.slots := ⟨by show 100 + 17 * j ≤ 600000; omega, by show 50000 + 3085 * j ≤ 7302250; omega⟩
  rw [fL_48] at h
  refine lv_aload_n hx hb dL_law_1840 rfl (lv_at hl 1 rfl) ?_
  refine lv_aload_n hx hb dL_law_1841 rfl (lv_at hl 0 rfl) ?_
  refine lv_iload_n hx hb dL_law_1842 rfl (lv_at hl 3 rfl) ?_
  refine lv_iconst (v := nI 1) hx hb dL_law_1843 (by decide) ?_
  refine rScr (q := 1) CL hd hL hj (by decide) dL_law_1844 dL_law_1845 ?_
  obtain ⟨r1, er1, h⟩ := cal_e h
  refine rCallI C hd (c_X7_count hE er1) kL_215 0 rfl rfl rfl rfl hl.1 rfl (Nat.le_of_ble_eq_true rfl) ⟨(Nat.le_of_ble_eq_true rfl), (Nat.le_of_ble_eq_true rfl)⟩ hcs dL_law_1846 (fun H locs hd => ?_)
  refine lv_aload_n hx hb dL_law_1849 rfl (lv_at hl 2 rfl) ?_
  refine lv_aload_n hx hb dL_law_1850 rfl (lv_at hl 0 rfl) ?_
  refine lv_iload_n hx hb dL_law_1851 rfl (lv_at hl 3 rfl) ?_
  refine lv_iconst (v := nI 1) hx hb dL_law_1852 (by decide) ?_
  refine rScr (q := 1) CL hd hL hj (by decide) dL_law_1853 dL_law_1854 ?_
  have hd : Dy g (wM g τ ++ (wD g σ ++ slW g ex β)) s _ _ := Dy.perm hd wl_perm
  obtain ⟨r2, er2, h⟩ := cal_e h
  refine rCallI C hd (c_X8_count hE er2) kL_218 0 rfl rfl rfl rfl hl.1 rfl (Nat.le_of_ble_eq_true rfl) ⟨(Nat.le_of_ble_eq_true rfl), (Nat.le_of_ble_eq_true rfl)⟩ hcs dL_law_1855 (fun H locs hd => ?_)
  have hd : Dy g (wD g σ ++ (slW g ex β ++ wM g τ)) s _ _ := Dy.perm hd wl_perm.symm
  refine lv_icmp_eq (tgt := 1863) hx hb dL_law_1858 (by decide) (fun c9 => ?_) (fun c9 => ?_)
  · replace h := iteT c9 h
    refine W.widen (k := 100 + 17 * (j + 1)) (n := 50000 + 3085 * (j + 1)) (by omega) (by omega) ?_
    exact hK _ _ _ _ h g _ _ _ CL hd hl
  · replace h := iteF c9 h
    exact absurd (Option.some.inj h) (by decide)

noncomputable def f_law (F L : Nat) (xs : Nat → Int32) : Nat → Nat → Kt
  | 0, _, _, _, _, _ => none
  | n + 1, j, σ, τ, ex, β => if 6 * j + 6 ≤ L then (if (xs (6 * j) &&& 63) = 0 then fL_0 F j xs (f_law F L xs n (j + 1)) σ τ ex β else if (xs (6 * j) &&& 63) = 1 then fL_1 F j xs (f_law F L xs n (j + 1)) σ τ ex β else if (xs (6 * j) &&& 63) = 2 then fL_2 F j xs (f_law F L xs n (j + 1)) σ τ ex β else if (xs (6 * j) &&& 63) = 3 then fL_3 F j xs (f_law F L xs n (j + 1)) σ τ ex β else if (xs (6 * j) &&& 63) = 4 then fL_4 F j xs (f_law F L xs n (j + 1)) σ τ ex β else if (xs (6 * j) &&& 63) = 5 then fL_5 F j xs (f_law F L xs n (j + 1)) σ τ ex β else if (xs (6 * j) &&& 63) = 6 then fL_6 F j xs (f_law F L xs n (j + 1)) σ τ ex β else if (xs (6 * j) &&& 63) = 7 then fL_7 F j xs (f_law F L xs n (j + 1)) σ τ ex β else if (xs (6 * j) &&& 63) = 8 then fL_8 F j xs (f_law F L xs n (j + 1)) σ τ ex β else if (xs (6 * j) &&& 63) = 9 then fL_9 F j xs (f_law F L xs n (j + 1)) σ τ ex β else if (xs (6 * j) &&& 63) = 10 then fL_10 F j xs (f_law F L xs n (j + 1)) σ τ ex β else if (xs (6 * j) &&& 63) = 11 then fL_11 F j xs (f_law F L xs n (j + 1)) σ τ ex β else if (xs (6 * j) &&& 63) = 12 then fL_12 F j xs (f_law F L xs n (j + 1)) σ τ ex β else if (xs (6 * j) &&& 63) = 13 then fL_13 F j xs (f_law F L xs n (j + 1)) σ τ ex β else if (xs (6 * j) &&& 63) = 14 then fL_14 F j xs (f_law F L xs n (j + 1)) σ τ ex β else if (xs (6 * j) &&& 63) = 15 then fL_15 F j xs (f_law F L xs n (j + 1)) σ τ ex β else if (xs (6 * j) &&& 63) = 16 then fL_16 F j xs (f_law F L xs n (j + 1)) σ τ ex β else if (xs (6 * j) &&& 63) = 17 then fL_17 F j xs (f_law F L xs n (j + 1)) σ τ ex β else if (xs (6 * j) &&& 63) = 18 then fL_18 F j xs (f_law F L xs n (j + 1)) σ τ ex β else if (xs (6 * j) &&& 63) = 19 then fL_19 F j xs (f_law F L xs n (j + 1)) σ τ ex β else if (xs (6 * j) &&& 63) = 20 then fL_20 F j xs (f_law F L xs n (j + 1)) σ τ ex β else if (xs (6 * j) &&& 63) = 21 then fL_21 F j xs (f_law F L xs n (j + 1)) σ τ ex β else if (xs (6 * j) &&& 63) = 22 then fL_22 F j xs (f_law F L xs n (j + 1)) σ τ ex β else if (xs (6 * j) &&& 63) = 23 then fL_23 F j xs (f_law F L xs n (j + 1)) σ τ ex β else if (xs (6 * j) &&& 63) = 24 then fL_24 F j xs (f_law F L xs n (j + 1)) σ τ ex β else if (xs (6 * j) &&& 63) = 25 then fL_25 F j xs (f_law F L xs n (j + 1)) σ τ ex β else if (xs (6 * j) &&& 63) = 26 then fL_26 F j xs (f_law F L xs n (j + 1)) σ τ ex β else if (xs (6 * j) &&& 63) = 27 then fL_27 F j xs (f_law F L xs n (j + 1)) σ τ ex β else if (xs (6 * j) &&& 63) = 28 then fL_28 F j xs (f_law F L xs n (j + 1)) σ τ ex β else if (xs (6 * j) &&& 63) = 29 then fL_29 F j xs (f_law F L xs n (j + 1)) σ τ ex β else if (xs (6 * j) &&& 63) = 30 then fL_30 F j xs (f_law F L xs n (j + 1)) σ τ ex β else if (xs (6 * j) &&& 63) = 31 then fL_31 F j xs (f_law F L xs n (j + 1)) σ τ ex β else if (xs (6 * j) &&& 63) = 32 then fL_32 F j xs (f_law F L xs n (j + 1)) σ τ ex β else if (xs (6 * j) &&& 63) = 33 then fL_33 F j xs (f_law F L xs n (j + 1)) σ τ ex β else if (xs (6 * j) &&& 63) = 34 then fL_34 F j xs (f_law F L xs n (j + 1)) σ τ ex β else if (xs (6 * j) &&& 63) = 35 then fL_35 F j xs (f_law F L xs n (j + 1)) σ τ ex β else if (xs (6 * j) &&& 63) = 36 then fL_36 F j xs (f_law F L xs n (j + 1)) σ τ ex β else if (xs (6 * j) &&& 63) = 37 then fL_37 F j xs (f_law F L xs n (j + 1)) σ τ ex β else if (xs (6 * j) &&& 63) = 38 then fL_38 F j xs (f_law F L xs n (j + 1)) σ τ ex β else if (xs (6 * j) &&& 63) = 39 then fL_39 F j xs (f_law F L xs n (j + 1)) σ τ ex β else if (xs (6 * j) &&& 63) = 40 then fL_40 F j xs (f_law F L xs n (j + 1)) σ τ ex β else if (xs (6 * j) &&& 63) = 41 then fL_41 F j xs (f_law F L xs n (j + 1)) σ τ ex β else if (xs (6 * j) &&& 63) = 42 then fL_42 F j xs (f_law F L xs n (j + 1)) σ τ ex β else if (xs (6 * j) &&& 63) = 43 then fL_43 F j xs (f_law F L xs n (j + 1)) σ τ ex β else if (xs (6 * j) &&& 63) = 44 then fL_44 F j xs (f_law F L xs n (j + 1)) σ τ ex β else if (xs (6 * j) &&& 63) = 45 then fL_45 F j xs (f_law F L xs n (j + 1)) σ τ ex β else if (xs (6 * j) &&& 63) = 46 then fL_46 F j xs (f_law F L xs n (j + 1)) σ τ ex β else if (xs (6 * j) &&& 63) = 47 then fL_47 F j xs (f_law F L xs n (j + 1)) σ τ ex β else if (xs (6 * j) &&& 63) = 48 then fL_48 F j xs (f_law F L xs n (j + 1)) σ τ ex β else f_law F L xs n (j + 1) σ τ ex β) else some 1
set_option maxRecDepth 100000 in
set_option maxHeartbeats 8000000 in
theorem law_loop {p : Program} {l : Launch} {e : Env} {s : State} {m : MethodId} {below : List Frame} {meth : Method} {c : Code} {b L F : Nat} {xs : Nat → Int32} (hL : L ≤ 3072) (hr : meth.sig.returnType = ret) (hlocks : meth.locks = false) : ∀ (n j : Nat) (σ τ : St) (ex : Nat → Bool) (β : Nat → St), 6 * j ≤ L + 5 → f_law F L xs n j σ τ ex β = some 1 → ∀ (g : Gp) (H : Heap) (locs : List Loc) (ls : Array Slot), LC g p s m b L xs meth c → Dy g (wD g σ ++ (slW g ex β ++ wM g τ)) s H locs → lv_has ls 4 [(0, .ref b), (1, .ref (ga g 0)), (2, .ref (ga g 40)), (3, .int (nI (6 * j)))] → W p l e room_1 s m #[Value.ref b] below meth c H locs (100 + 17 * j) (50000 + 3085 * j) (lw_Z below #[Value.ref b] s) (F0 m 18 ls []) := by
  intro n
  induction n with
  | zero =>
    intro j σ τ ex β hj0 h
    cases h
  | succ n ih =>
    intro j σ τ ex β hj0 h g H locs ls CL hd hl
    have hx := CL.1.1
    have hb := CL.1.2.1
    rw [f_law] at h
    refine lv_iload_n hx hb dL_law_18 rfl (lv_at hl 3 rfl) ?_
    refine lv_aload_n hx hb dL_law_19 rfl (lv_at hl 0 rfl) ?_
    refine va_slen (A := gA g) hx hb CL.2.2.1 CL.2.2.2 (fun z => by have z1 : g.2.2.2.1 ≤ b := z; have z2 := CL.2.1; have z3 := CL.2.2.2; omega) hd.2.2 dL_law_20 ?_
    refine lv_bipush (v := nI 6) hx hb dL_law_21 (by decide) ?_
    refine lv_isub hx hb dL_law_23 ?_
    refine lv_icmp_gt (tgt := 1869) hx hb dL_law_24 (by decide) (fun c1 => ?_) (fun c1 => ?_)
    · have hlt : ¬ 6 * j + 6 ≤ L := fun q => by
        rw [show Int32.ofNat L = nI L from rfl, pk_sub (show 6 ≤ L by omega), Int32.lt_iff_toInt_lt, nI_toInt (by omega), nI_toInt (by omega)] at c1
        omega
      replace h := iteF hlt h
      refine lv_iconst (v := 1) hx hb dL_law_1869 ic_1 ?_
      refine va_forget (fun q hq => by have z1 : g.2.2.2.1 ≤ q.base := hd.2.2.2.2 q hq; have z2 := CL.2.1; omega) ?_
      refine W.widen (k := 600000) (n := 7302250) (by omega) (by omega) ?_
      exact lw_ret hx hb hr hlocks dL_law_1870
    · have hj : 6 * j + 6 ≤ L := by
        rcases Nat.lt_or_ge L 6 with q | q
        · exfalso
          apply c1
          rw [show Int32.ofNat L = nI L from rfl, Int32.lt_iff_toInt_lt, pk_sub_toInt (by omega) (by omega), nI_toInt (by omega)]
          omega
        · rw [show Int32.ofNat L = nI L from rfl, pk_sub q, Int32.lt_iff_toInt_lt, nI_toInt (by omega), nI_toInt (by omega)] at c1
          omega
      replace h := iteT hj h
      have hK : ∀ (σ τ : St) (ex : Nat → Bool) (β : Nat → St), f_law F L xs n (j + 1) σ τ ex β = some 1 → ∀ (g : Gp) (H : Heap) (locs : List Loc) (ls : Array Slot), LC g p s m b L xs meth c → Dy g (wD g σ ++ (slW g ex β ++ wM g τ)) s H locs → lv_has ls 4 [(0, .ref b), (1, .ref (ga g 0)), (2, .ref (ga g 40)), (3, .int (nI (6 * j)))] → W p l e room_1 s m #[Value.ref b] below meth c H locs (100 + 17 * (j + 1)) (50000 + 3085 * (j + 1)) (lw_Z below #[Value.ref b] s) (F0 m 1863 ls []) := by
        intro σ τ ex β h g H locs ls CL hd hl
        refine lv_iinc (v := nI (6 * (j + 1))) (lv' := [(3, .int (nI (6 * (j + 1)))), (0, .ref b), (1, .ref (ga g 0)), (2, .ref (ga g 40))]) hx hb dL_law_1863 hl (k := 3) rfl (by rw [show Int32.ofInt 6 = nI 6 from by decide]; exact (Int32.ofNat_add (6 * j) 6).symm) (Nat.le_of_ble_eq_true rfl) rfl (fun ls hl => ?_)
        refine lv_goto (tgt := 18) hx hb dL_law_1866 (by decide) ?_
        exact ih (j + 1) σ τ ex β (by omega) h g _ _ _ CL hd (lv_sub hl [1, 2, 3, 0] rfl)
      refine lv_aload_n hx hb dL_law_27 rfl (lv_at hl 0 rfl) ?_
      refine lv_iload_n hx hb dL_law_28 rfl (lv_at hl 3 rfl) ?_
      refine va_sld (A := gA g) hx hb CL.2.2.1 CL.2.2.2 (fun z => by have z1 : g.2.2.2.1 ≤ b := z; have z2 := CL.2.1; have z3 := CL.2.2.2; omega) hd.2.2 (nI_in (by omega) (by omega)) dL_law_29 ?_
      refine lv_bipush (v := 63) hx hb dL_law_30 (by decide) ?_
      refine lv_iand hx hb dL_law_32 ?_
      refine rTop (show (xs (6 * j) &&& 63) = (xs (nI (6 * j)).toNatClampNeg &&& 63) by rw [nI_clamp (by omega)]) ?_
      by_cases c10 : (xs (6 * j) &&& 63) = 0
      · replace h := iteT c10 h
        refine rTop c10.symm ?_
        refine lv_tableIn (off := 211) (tgt := 244) hx hb dL_law_33 (by decide) (by decide) (by decide) (by decide) ?_
        exact lc_0 CL hL hj h hK hd hl
      replace h := iteF c10 h
      by_cases c11 : (xs (6 * j) &&& 63) = 1
      · replace h := iteT c11 h
        refine rTop c11.symm ?_
        refine lv_tableIn (off := 274) (tgt := 307) hx hb dL_law_33 (by decide) (by decide) (by decide) (by decide) ?_
        exact lc_1 CL hL hj h hK hd hl
      replace h := iteF c11 h
      by_cases c12 : (xs (6 * j) &&& 63) = 2
      · replace h := iteT c12 h
        refine rTop c12.symm ?_
        refine lv_tableIn (off := 297) (tgt := 330) hx hb dL_law_33 (by decide) (by decide) (by decide) (by decide) ?_
        exact lc_2 CL hL hj h hK hd hl
      replace h := iteF c12 h
      by_cases c13 : (xs (6 * j) &&& 63) = 3
      · replace h := iteT c13 h
        refine rTop c13.symm ?_
        refine lv_tableIn (off := 310) (tgt := 343) hx hb dL_law_33 (by decide) (by decide) (by decide) (by decide) ?_
        exact lc_3 CL hL hj h hK hd hl
      replace h := iteF c13 h
      by_cases c14 : (xs (6 * j) &&& 63) = 4
      · replace h := iteT c14 h
        refine rTop c14.symm ?_
        refine lv_tableIn (off := 323) (tgt := 356) hx hb dL_law_33 (by decide) (by decide) (by decide) (by decide) ?_
        exact lc_4 CL hL hj h hK hd hl
      replace h := iteF c14 h
      by_cases c15 : (xs (6 * j) &&& 63) = 5
      · replace h := iteT c15 h
        refine rTop c15.symm ?_
        refine lv_tableIn (off := 356) (tgt := 389) hx hb dL_law_33 (by decide) (by decide) (by decide) (by decide) ?_
        exact lc_5 CL hL hj h hK hd hl
      replace h := iteF c15 h
      by_cases c16 : (xs (6 * j) &&& 63) = 6
      · replace h := iteT c16 h
        refine rTop c16.symm ?_
        refine lv_tableIn (off := 389) (tgt := 422) hx hb dL_law_33 (by decide) (by decide) (by decide) (by decide) ?_
        exact lc_6 CL hL hj h hK hd hl
      replace h := iteF c16 h
      by_cases c17 : (xs (6 * j) &&& 63) = 7
      · replace h := iteT c17 h
        refine rTop c17.symm ?_
        refine lv_tableIn (off := 412) (tgt := 445) hx hb dL_law_33 (by decide) (by decide) (by decide) (by decide) ?_
        exact lc_7 CL hL hj h hK hd hl
      replace h := iteF c17 h
      by_cases c18 : (xs (6 * j) &&& 63) = 8
      · replace h := iteT c18 h
        refine rTop c18.symm ?_
        refine lv_tableIn (off := 425) (tgt := 458) hx hb dL_law_33 (by decide) (by decide) (by decide) (by decide) ?_
        exact lc_8 CL hL hj h hK hd hl
      replace h := iteF c18 h
      by_cases c19 : (xs (6 * j) &&& 63) = 9
      · replace h := iteT c19 h
        refine rTop c19.symm ?_
        refine lv_tableIn (off := 448) (tgt := 481) hx hb dL_law_33 (by decide) (by decide) (by decide) (by decide) ?_
        exact lc_9 CL hL hj h hK hd hl
      replace h := iteF c19 h
      by_cases c20 : (xs (6 * j) &&& 63) = 10
      · replace h := iteT c20 h
        refine rTop c20.symm ?_
        refine lv_tableIn (off := 481) (tgt := 514) hx hb dL_law_33 (by decide) (by decide) (by decide) (by decide) ?_
        exact lc_10 CL hL hj h hK hd hl
      replace h := iteF c20 h
      by_cases c21 : (xs (6 * j) &&& 63) = 11
      · replace h := iteT c21 h
        refine rTop c21.symm ?_
        refine lv_tableIn (off := 504) (tgt := 537) hx hb dL_law_33 (by decide) (by decide) (by decide) (by decide) ?_
        exact lc_11 CL hL hj h hK hd hl
      replace h := iteF c21 h
      by_cases c22 : (xs (6 * j) &&& 63) = 12
      · replace h := iteT c22 h
        refine rTop c22.symm ?_
        refine lv_tableIn (off := 527) (tgt := 560) hx hb dL_law_33 (by decide) (by decide) (by decide) (by decide) ?_
        exact lc_12 CL hL hj h hK hd hl
      replace h := iteF c22 h
      by_cases c23 : (xs (6 * j) &&& 63) = 13
      · replace h := iteT c23 h
        refine rTop c23.symm ?_
        refine lv_tableIn (off := 550) (tgt := 583) hx hb dL_law_33 (by decide) (by decide) (by decide) (by decide) ?_
        exact lc_13 CL hL hj h hK hd hl
      replace h := iteF c23 h
      by_cases c24 : (xs (6 * j) &&& 63) = 14
      · replace h := iteT c24 h
        refine rTop c24.symm ?_
        refine lv_tableIn (off := 593) (tgt := 626) hx hb dL_law_33 (by decide) (by decide) (by decide) (by decide) ?_
        exact lc_14 CL hL hj h hK hd hl
      replace h := iteF c24 h
      by_cases c25 : (xs (6 * j) &&& 63) = 15
      · replace h := iteT c25 h
        refine rTop c25.symm ?_
        refine lv_tableIn (off := 626) (tgt := 659) hx hb dL_law_33 (by decide) (by decide) (by decide) (by decide) ?_
        exact lc_15 CL hL hj h hK hd hl
      replace h := iteF c25 h
      by_cases c26 : (xs (6 * j) &&& 63) = 16
      · replace h := iteT c26 h
        refine rTop c26.symm ?_
        refine lv_tableIn (off := 685) (tgt := 718) hx hb dL_law_33 (by decide) (by decide) (by decide) (by decide) ?_
        exact lc_16 CL hL hj h hK hd hl
      replace h := iteF c26 h
      by_cases c27 : (xs (6 * j) &&& 63) = 17
      · replace h := iteT c27 h
        refine rTop c27.symm ?_
        refine lv_tableIn (off := 728) (tgt := 761) hx hb dL_law_33 (by decide) (by decide) (by decide) (by decide) ?_
        exact lc_17 CL hL hj h hK hd hl
      replace h := iteF c27 h
      by_cases c28 : (xs (6 * j) &&& 63) = 18
      · replace h := iteT c28 h
        refine rTop c28.symm ?_
        refine lv_tableIn (off := 771) (tgt := 804) hx hb dL_law_33 (by decide) (by decide) (by decide) (by decide) ?_
        exact lc_18 CL hL hj h hK hd hl
      replace h := iteF c28 h
      by_cases c29 : (xs (6 * j) &&& 63) = 19
      · replace h := iteT c29 h
        refine rTop c29.symm ?_
        refine lv_tableIn (off := 804) (tgt := 837) hx hb dL_law_33 (by decide) (by decide) (by decide) (by decide) ?_
        exact lc_19 CL hL hj h hK hd hl
      replace h := iteF c29 h
      by_cases c30 : (xs (6 * j) &&& 63) = 20
      · replace h := iteT c30 h
        refine rTop c30.symm ?_
        refine lv_tableIn (off := 837) (tgt := 870) hx hb dL_law_33 (by decide) (by decide) (by decide) (by decide) ?_
        exact lc_20 CL hL hj h hK hd hl
      replace h := iteF c30 h
      by_cases c31 : (xs (6 * j) &&& 63) = 21
      · replace h := iteT c31 h
        refine rTop c31.symm ?_
        refine lv_tableIn (off := 870) (tgt := 903) hx hb dL_law_33 (by decide) (by decide) (by decide) (by decide) ?_
        exact lc_21 CL hL hj h hK hd hl
      replace h := iteF c31 h
      by_cases c32 : (xs (6 * j) &&& 63) = 22
      · replace h := iteT c32 h
        refine rTop c32.symm ?_
        refine lv_tableIn (off := 903) (tgt := 936) hx hb dL_law_33 (by decide) (by decide) (by decide) (by decide) ?_
        exact lc_22 CL hL hj h hK hd hl
      replace h := iteF c32 h
      by_cases c33 : (xs (6 * j) &&& 63) = 23
      · replace h := iteT c33 h
        refine rTop c33.symm ?_
        refine lv_tableIn (off := 936) (tgt := 969) hx hb dL_law_33 (by decide) (by decide) (by decide) (by decide) ?_
        exact lc_23 CL hL hj h hK hd hl
      replace h := iteF c33 h
      by_cases c34 : (xs (6 * j) &&& 63) = 24
      · replace h := iteT c34 h
        refine rTop c34.symm ?_
        refine lv_tableIn (off := 969) (tgt := 1002) hx hb dL_law_33 (by decide) (by decide) (by decide) (by decide) ?_
        exact lc_24 CL hL hj h hK hd hl
      replace h := iteF c34 h
      by_cases c35 : (xs (6 * j) &&& 63) = 25
      · replace h := iteT c35 h
        refine rTop c35.symm ?_
        refine lv_tableIn (off := 1002) (tgt := 1035) hx hb dL_law_33 (by decide) (by decide) (by decide) (by decide) ?_
        exact lc_25 CL hL hj h hK hd hl
      replace h := iteF c35 h
      by_cases c36 : (xs (6 * j) &&& 63) = 26
      · replace h := iteT c36 h
        refine rTop c36.symm ?_
        refine lv_tableIn (off := 1045) (tgt := 1078) hx hb dL_law_33 (by decide) (by decide) (by decide) (by decide) ?_
        exact lc_26 CL hL hj h hK hd hl
      replace h := iteF c36 h
      by_cases c37 : (xs (6 * j) &&& 63) = 27
      · replace h := iteT c37 h
        refine rTop c37.symm ?_
        refine lv_tableIn (off := 1098) (tgt := 1131) hx hb dL_law_33 (by decide) (by decide) (by decide) (by decide) ?_
        exact lc_27 CL hL hj h hK hd hl
      replace h := iteF c37 h
      by_cases c38 : (xs (6 * j) &&& 63) = 28
      · replace h := iteT c38 h
        refine rTop c38.symm ?_
        refine lv_tableIn (off := 1151) (tgt := 1184) hx hb dL_law_33 (by decide) (by decide) (by decide) (by decide) ?_
        exact lc_28 CL hL hj h hK hd hl
      replace h := iteF c38 h
      by_cases c39 : (xs (6 * j) &&& 63) = 29
      · replace h := iteT c39 h
        refine rTop c39.symm ?_
        refine lv_tableIn (off := 1184) (tgt := 1217) hx hb dL_law_33 (by decide) (by decide) (by decide) (by decide) ?_
        exact lc_29 CL hL hj h hK hd hl
      replace h := iteF c39 h
      by_cases c40 : (xs (6 * j) &&& 63) = 30
      · replace h := iteT c40 h
        refine rTop c40.symm ?_
        refine lv_tableIn (off := 1217) (tgt := 1250) hx hb dL_law_33 (by decide) (by decide) (by decide) (by decide) ?_
        exact lc_30 CL hL hj h hK hd hl
      replace h := iteF c40 h
      by_cases c41 : (xs (6 * j) &&& 63) = 31
      · replace h := iteT c41 h
        refine rTop c41.symm ?_
        refine lv_tableIn (off := 1240) (tgt := 1273) hx hb dL_law_33 (by decide) (by decide) (by decide) (by decide) ?_
        exact lc_31 CL hL hj h hK hd hl
      replace h := iteF c41 h
      by_cases c42 : (xs (6 * j) &&& 63) = 32
      · replace h := iteT c42 h
        refine rTop c42.symm ?_
        refine lv_tableIn (off := 1273) (tgt := 1306) hx hb dL_law_33 (by decide) (by decide) (by decide) (by decide) ?_
        exact lc_32 CL hL hj h hK hd hl
      replace h := iteF c42 h
      by_cases c43 : (xs (6 * j) &&& 63) = 33
      · replace h := iteT c43 h
        refine rTop c43.symm ?_
        refine lv_tableIn (off := 1306) (tgt := 1339) hx hb dL_law_33 (by decide) (by decide) (by decide) (by decide) ?_
        exact lc_33 CL hL hj h hK hd hl
      replace h := iteF c43 h
      by_cases c44 : (xs (6 * j) &&& 63) = 34
      · replace h := iteT c44 h
        refine rTop c44.symm ?_
        refine lv_tableIn (off := 1365) (tgt := 1398) hx hb dL_law_33 (by decide) (by decide) (by decide) (by decide) ?_
        exact lc_34 CL hL hj h hK hd hl
      replace h := iteF c44 h
      by_cases c45 : (xs (6 * j) &&& 63) = 35
      · replace h := iteT c45 h
        refine rTop c45.symm ?_
        refine lv_tableIn (off := 1408) (tgt := 1441) hx hb dL_law_33 (by decide) (by decide) (by decide) (by decide) ?_
        exact lc_35 CL hL hj h hK hd hl
      replace h := iteF c45 h
      by_cases c46 : (xs (6 * j) &&& 63) = 36
      · replace h := iteT c46 h
        refine rTop c46.symm ?_
        refine lv_tableIn (off := 1431) (tgt := 1464) hx hb dL_law_33 (by decide) (by decide) (by decide) (by decide) ?_
        exact lc_36 CL hL hj h hK hd hl
      replace h := iteF c46 h
      by_cases c47 : (xs (6 * j) &&& 63) = 37
      · replace h := iteT c47 h
        refine rTop c47.symm ?_
        refine lv_tableIn (off := 1444) (tgt := 1477) hx hb dL_law_33 (by decide) (by decide) (by decide) (by decide) ?_
        exact lc_37 CL hL hj h hK hd hl
      replace h := iteF c47 h
      by_cases c48 : (xs (6 * j) &&& 63) = 38
      · replace h := iteT c48 h
        refine rTop c48.symm ?_
        refine lv_tableIn (off := 1477) (tgt := 1510) hx hb dL_law_33 (by decide) (by decide) (by decide) (by decide) ?_
        exact lc_38 CL hL hj h hK hd hl
      replace h := iteF c48 h
      by_cases c49 : (xs (6 * j) &&& 63) = 39
      · replace h := iteT c49 h
        refine rTop c49.symm ?_
        refine lv_tableIn (off := 1500) (tgt := 1533) hx hb dL_law_33 (by decide) (by decide) (by decide) (by decide) ?_
        exact lc_39 CL hL hj h hK hd hl
      replace h := iteF c49 h
      by_cases c50 : (xs (6 * j) &&& 63) = 40
      · replace h := iteT c50 h
        refine rTop c50.symm ?_
        refine lv_tableIn (off := 1523) (tgt := 1556) hx hb dL_law_33 (by decide) (by decide) (by decide) (by decide) ?_
        exact lc_40 CL hL hj h hK hd hl
      replace h := iteF c50 h
      by_cases c51 : (xs (6 * j) &&& 63) = 41
      · replace h := iteT c51 h
        refine rTop c51.symm ?_
        refine lv_tableIn (off := 1566) (tgt := 1599) hx hb dL_law_33 (by decide) (by decide) (by decide) (by decide) ?_
        exact lc_41 CL hL hj h hK hd hl
      replace h := iteF c51 h
      by_cases c52 : (xs (6 * j) &&& 63) = 42
      · replace h := iteT c52 h
        refine rTop c52.symm ?_
        refine lv_tableIn (off := 1619) (tgt := 1652) hx hb dL_law_33 (by decide) (by decide) (by decide) (by decide) ?_
        exact lc_42 CL hL hj h hK hd hl
      replace h := iteF c52 h
      by_cases c53 : (xs (6 * j) &&& 63) = 43
      · replace h := iteT c53 h
        refine rTop c53.symm ?_
        refine lv_tableIn (off := 1662) (tgt := 1695) hx hb dL_law_33 (by decide) (by decide) (by decide) (by decide) ?_
        exact lc_43 CL hL hj h hK hd hl
      replace h := iteF c53 h
      by_cases c54 : (xs (6 * j) &&& 63) = 44
      · replace h := iteT c54 h
        refine rTop c54.symm ?_
        refine lv_tableIn (off := 1695) (tgt := 1728) hx hb dL_law_33 (by decide) (by decide) (by decide) (by decide) ?_
        exact lc_44 CL hL hj h hK hd hl
      replace h := iteF c54 h
      by_cases c55 : (xs (6 * j) &&& 63) = 45
      · replace h := iteT c55 h
        refine rTop c55.symm ?_
        refine lv_tableIn (off := 1728) (tgt := 1761) hx hb dL_law_33 (by decide) (by decide) (by decide) (by decide) ?_
        exact lc_45 CL hL hj h hK hd hl
      replace h := iteF c55 h
      by_cases c56 : (xs (6 * j) &&& 63) = 46
      · replace h := iteT c56 h
        refine rTop c56.symm ?_
        refine lv_tableIn (off := 1761) (tgt := 1794) hx hb dL_law_33 (by decide) (by decide) (by decide) (by decide) ?_
        exact lc_46 CL hL hj h hK hd hl
      replace h := iteF c56 h
      by_cases c57 : (xs (6 * j) &&& 63) = 47
      · replace h := iteT c57 h
        refine rTop c57.symm ?_
        refine lv_tableIn (off := 1784) (tgt := 1817) hx hb dL_law_33 (by decide) (by decide) (by decide) (by decide) ?_
        exact lc_47 CL hL hj h hK hd hl
      replace h := iteF c57 h
      by_cases c58 : (xs (6 * j) &&& 63) = 48
      · replace h := iteT c58 h
        refine rTop c58.symm ?_
        refine lv_tableIn (off := 1807) (tgt := 1840) hx hb dL_law_33 (by decide) (by decide) (by decide) (by decide) ?_
        exact lc_48 CL hL hj h hK hd hl
      replace h := iteF c58 h
      refine lv_tableOut (tgt := 1863) hx hb dL_law_33 (sw_out (lo := 0) (hi := 48) (fun z z1 z2 e => ?_)) (by decide) ?_
      · have hz : z = 0 ∨ z = 1 ∨ z = 2 ∨ z = 3 ∨ z = 4 ∨ z = 5 ∨ z = 6 ∨ z = 7 ∨ z = 8 ∨ z = 9 ∨ z = 10 ∨ z = 11 ∨ z = 12 ∨ z = 13 ∨ z = 14 ∨ z = 15 ∨ z = 16 ∨ z = 17 ∨ z = 18 ∨ z = 19 ∨ z = 20 ∨ z = 21 ∨ z = 22 ∨ z = 23 ∨ z = 24 ∨ z = 25 ∨ z = 26 ∨ z = 27 ∨ z = 28 ∨ z = 29 ∨ z = 30 ∨ z = 31 ∨ z = 32 ∨ z = 33 ∨ z = 34 ∨ z = 35 ∨ z = 36 ∨ z = 37 ∨ z = 38 ∨ z = 39 ∨ z = 40 ∨ z = 41 ∨ z = 42 ∨ z = 43 ∨ z = 44 ∨ z = 45 ∨ z = 46 ∨ z = 47 ∨ z = 48 := by omega
        rcases hz with rfl | rfl | rfl | rfl | rfl | rfl | rfl | rfl | rfl | rfl | rfl | rfl | rfl | rfl | rfl | rfl | rfl | rfl | rfl | rfl | rfl | rfl | rfl | rfl | rfl | rfl | rfl | rfl | rfl | rfl | rfl | rfl | rfl | rfl | rfl | rfl | rfl | rfl | rfl | rfl | rfl | rfl | rfl | rfl | rfl | rfl | rfl | rfl | rfl
        · exact c10 (Int32.toInt_inj.mp (e.trans (by decide)))
        · exact c11 (Int32.toInt_inj.mp (e.trans (by decide)))
        · exact c12 (Int32.toInt_inj.mp (e.trans (by decide)))
        · exact c13 (Int32.toInt_inj.mp (e.trans (by decide)))
        · exact c14 (Int32.toInt_inj.mp (e.trans (by decide)))
        · exact c15 (Int32.toInt_inj.mp (e.trans (by decide)))
        · exact c16 (Int32.toInt_inj.mp (e.trans (by decide)))
        · exact c17 (Int32.toInt_inj.mp (e.trans (by decide)))
        · exact c18 (Int32.toInt_inj.mp (e.trans (by decide)))
        · exact c19 (Int32.toInt_inj.mp (e.trans (by decide)))
        · exact c20 (Int32.toInt_inj.mp (e.trans (by decide)))
        · exact c21 (Int32.toInt_inj.mp (e.trans (by decide)))
        · exact c22 (Int32.toInt_inj.mp (e.trans (by decide)))
        · exact c23 (Int32.toInt_inj.mp (e.trans (by decide)))
        · exact c24 (Int32.toInt_inj.mp (e.trans (by decide)))
        · exact c25 (Int32.toInt_inj.mp (e.trans (by decide)))
        · exact c26 (Int32.toInt_inj.mp (e.trans (by decide)))
        · exact c27 (Int32.toInt_inj.mp (e.trans (by decide)))
        · exact c28 (Int32.toInt_inj.mp (e.trans (by decide)))
        · exact c29 (Int32.toInt_inj.mp (e.trans (by decide)))
        · exact c30 (Int32.toInt_inj.mp (e.trans (by decide)))
        · exact c31 (Int32.toInt_inj.mp (e.trans (by decide)))
        · exact c32 (Int32.toInt_inj.mp (e.trans (by decide)))
        · exact c33 (Int32.toInt_inj.mp (e.trans (by decide)))
        · exact c34 (Int32.toInt_inj.mp (e.trans (by decide)))
        · exact c35 (Int32.toInt_inj.mp (e.trans (by decide)))
        · exact c36 (Int32.toInt_inj.mp (e.trans (by decide)))
        · exact c37 (Int32.toInt_inj.mp (e.trans (by decide)))
        · exact c38 (Int32.toInt_inj.mp (e.trans (by decide)))
        · exact c39 (Int32.toInt_inj.mp (e.trans (by decide)))
        · exact c40 (Int32.toInt_inj.mp (e.trans (by decide)))
        · exact c41 (Int32.toInt_inj.mp (e.trans (by decide)))
        · exact c42 (Int32.toInt_inj.mp (e.trans (by decide)))
        · exact c43 (Int32.toInt_inj.mp (e.trans (by decide)))
        · exact c44 (Int32.toInt_inj.mp (e.trans (by decide)))
        · exact c45 (Int32.toInt_inj.mp (e.trans (by decide)))
        · exact c46 (Int32.toInt_inj.mp (e.trans (by decide)))
        · exact c47 (Int32.toInt_inj.mp (e.trans (by decide)))
        · exact c48 (Int32.toInt_inj.mp (e.trans (by decide)))
        · exact c49 (Int32.toInt_inj.mp (e.trans (by decide)))
        · exact c50 (Int32.toInt_inj.mp (e.trans (by decide)))
        · exact c51 (Int32.toInt_inj.mp (e.trans (by decide)))
        · exact c52 (Int32.toInt_inj.mp (e.trans (by decide)))
        · exact c53 (Int32.toInt_inj.mp (e.trans (by decide)))
        · exact c54 (Int32.toInt_inj.mp (e.trans (by decide)))
        · exact c55 (Int32.toInt_inj.mp (e.trans (by decide)))
        · exact c56 (Int32.toInt_inj.mp (e.trans (by decide)))
        · exact c57 (Int32.toInt_inj.mp (e.trans (by decide)))
        · exact c58 (Int32.toInt_inj.mp (e.trans (by decide)))
      refine W.widen (k := 100 + 17 * (j + 1)) (n := 50000 + 3085 * (j + 1)) (by omega) (by omega) ?_
      exact hK _ _ _ _ h g _ _ _ CL hd hl

