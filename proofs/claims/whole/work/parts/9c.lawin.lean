set_option maxRecDepth 100000 in
set_option maxHeartbeats 4000000 in
/-- what stays at all times, at the law's entry -/
theorem law_entry {s : State} {b : Nat} (hts : ∀ w ∈ lw_tbl, w.before #[Value.ref b] s = true) (hgv : (Jvm.Cond.and given_1 narrow_1).before #[Value.ref b] s = true) : ∃ G : XG, xK G s ∧ xT G (fun q : Nat => s.heap.size ≤ q) s := by
  have tb : ∀ (i : Nat) {w : Cond}, lw_tbl[i]? = some w → w.before #[Value.ref b] s = true := fun i w h => hts w (List.mem_of_getElem? h)
  have hA : ∀ a : Nat, a < s.heap.size → ¬ (fun q : Nat => s.heap.size ≤ q) a := fun a h => Nat.not_le.mpr h
  obtain ⟨c0, i0, k0⟩ := u_known (C := RJx4a65c) (T := TJx4a65c) (N := 3) (n := 3) hts inJx4a65c (tb 60 (by decide +kernel) : (Cond.instantiable RJx4a65c 3).before #[Value.ref b] s = true)
  obtain ⟨c1, i1, k1⟩ := u_known (C := RX0) (T := TX0) (N := 6) (n := 6) hts inX0 (tb 544 (by decide +kernel) : (Cond.instantiable RX0 6).before #[Value.ref b] s = true)
  obtain ⟨c2, i2, k2⟩ := u_known (C := RX1) (T := TX1) (N := 6) (n := 6) hts inX1 (tb 117 (by decide +kernel) : (Cond.instantiable RX1 6).before #[Value.ref b] s = true)
  obtain ⟨c3, i3, k3⟩ := u_known (C := RX2) (T := TX2) (N := 12) (n := 12) hts inX2 (tb 109 (by decide +kernel) : (Cond.instantiable RX2 12).before #[Value.ref b] s = true)
  obtain ⟨c4, i4, k4⟩ := u_known (C := RX3) (T := TX3) (N := 3) (n := 3) hts inX3 (tb 87 (by decide +kernel) : (Cond.instantiable RX3 3).before #[Value.ref b] s = true)
  obtain ⟨c5, i5, k5⟩ := u_known (C := RX4) (T := TX4) (N := 7) (n := 7) hts inX4 (tb 288 (by decide +kernel) : (Cond.instantiable RX4 7).before #[Value.ref b] s = true)
  obtain ⟨c6, i6, k6⟩ := u_known (C := RX5) (T := TX5) (N := 6) (n := 6) hts inX5 (tb 196 (by decide +kernel) : (Cond.instantiable RX5 6).before #[Value.ref b] s = true)
  obtain ⟨c7, i7, k7⟩ := u_known (C := RX6) (T := TX6) (N := 12) (n := 12) hts inX6 (tb 50 (by decide +kernel) : (Cond.instantiable RX6 12).before #[Value.ref b] s = true)
  obtain ⟨c8, i8, k8⟩ := u_known (C := RX7) (T := TX7) (N := 39) (n := 39) hts inX7 (tb 716 (by decide +kernel) : (Cond.instantiable RX7 39).before #[Value.ref b] s = true)
  obtain ⟨dC, dI, hKc⟩ : ∃ (dC : Nat → ClassId) (dI : Nat → Nat → Nat), ∀ (k : Nat) (q : vw_C), vwCl[k]? = some q → u_Kn s q.1 q.2.1 q.2.2 (dC k) (dI k) := by
    refine ⟨fun k => match k with | 0 => c0 | 1 => c1 | 2 => c2 | 3 => c3 | 4 => c4 | 5 => c5 | 6 => c6 | 7 => c7 | _ => c8, fun k => match k with | 0 => i0 | 1 => i1 | 2 => i2 | 3 => i3 | 4 => i4 | 5 => i5 | 6 => i6 | 7 => i7 | _ => i8, ?_⟩
    intro k q hq
    match k, hq with
    | 0, hq => cases hq; exact k0
    | 1, hq => cases hq; exact k1
    | 2, hq => cases hq; exact k2
    | 3, hq => cases hq; exact k3
    | 4, hq => cases hq; exact k4
    | 5, hq => cases hq; exact k5
    | 6, hq => cases hq; exact k6
    | 7, hq => cases hq; exact k7
    | 8, hq => cases hq; exact k8
    | k + 9, hq => simp [vwCl] at hq
  obtain ⟨aI, bI, eI, fI, gI, jI⟩ := Cond.arrayClass_spec (tb 147 (by decide +kernel) : (Cond.arrayClass .int).before #[Value.ref b] s = true)
  obtain ⟨aZ, bZ, eZ, fZ, gZ, jZ⟩ := Cond.arrayClass_spec (tb 148 (by decide +kernel) : (Cond.arrayClass .boolean).before #[Value.ref b] s = true)
  obtain ⟨aB, bB, eB, fB, gB, jB⟩ := Cond.arrayClass_spec (tb 85 (by decide +kernel) : (Cond.arrayClass .byte).before #[Value.ref b] s = true)
  obtain ⟨eW, aW, bW, mW, -, gW, jW, fW⟩ := Cond.arrayOver_spec (tb 58 (by decide +kernel) : (Cond.arrayOver (.object "ResinWoods$Wood")).before #[Value.ref b] s = true)
  obtain ⟨eO, aO, bO, mO, -, gO, jO, fO⟩ := Cond.arrayOver_spec (tb 377 (by decide +kernel) : (Cond.arrayOver (.object "java/lang/Object")).before #[Value.ref b] s = true)
  obtain ⟨eA, aA, bA, mA0, gA, jA, fA⟩ := xAA_of (tb 115 (by decide +kernel) : (Cond.arrayOver (.array .int)).before #[Value.ref b] s = true)
  have fl := flat_of_before _ hgv
  have yS : ∀ j : Nat, j < 10 → (Term.elem (Term.static "ResinWoods" "STRENGTH" "[I") (.int (Int32.ofNat j))).eval #[Value.ref b] s none [] s = some ((fun j => Value.int (strV j)) j) := fun j hj => by
    have : j = 0 ∨ j = 1 ∨ j = 2 ∨ j = 3 ∨ j = 4 ∨ j = 5 ∨ j = 6 ∨ j = 7 ∨ j = 8 ∨ j = 9 := by omega
    rcases this with rfl | rfl | rfl | rfl | rfl | rfl | rfl | rfl | rfl | rfl
    · exact va_eqt (fl (Cond.eq (.elem (Term.static "ResinWoods" "STRENGTH" "[I") (.int 0)) (.int 6)) (by decide +kernel))
    · exact va_eqt (fl (Cond.eq (.elem (Term.static "ResinWoods" "STRENGTH" "[I") (.int 1)) (.int 5)) (by decide +kernel))
    · exact va_eqt (fl (Cond.eq (.elem (Term.static "ResinWoods" "STRENGTH" "[I") (.int 2)) (.int 4)) (by decide +kernel))
    · exact va_eqt (fl (Cond.eq (.elem (Term.static "ResinWoods" "STRENGTH" "[I") (.int 3)) (.int 3)) (by decide +kernel))
    · exact va_eqt (fl (Cond.eq (.elem (Term.static "ResinWoods" "STRENGTH" "[I") (.int 4)) (.int 2)) (by decide +kernel))
    · exact va_eqt (fl (Cond.eq (.elem (Term.static "ResinWoods" "STRENGTH" "[I") (.int 5)) (.int 1)) (by decide +kernel))
    · exact va_eqt (fl (Cond.eq (.elem (Term.static "ResinWoods" "STRENGTH" "[I") (.int 6)) (.int 1)) (by decide +kernel))
    · exact va_eqt (fl (Cond.eq (.elem (Term.static "ResinWoods" "STRENGTH" "[I") (.int 7)) (.int 1)) (by decide +kernel))
    · exact va_eqt (fl (Cond.eq (.elem (Term.static "ResinWoods" "STRENGTH" "[I") (.int 8)) (.int 1)) (by decide +kernel))
    · exact va_eqt (fl (Cond.eq (.elem (Term.static "ResinWoods" "STRENGTH" "[I") (.int 9)) (.int 1)) (by decide +kernel))
  obtain ⟨tS, vS, xS⟩ := va_Tof (tm := (Term.static "ResinWoods" "STRENGTH" "[I")) (ty := .int) (N := 10) (f := (fun j => Value.int (strV j))) (A := fun q : Nat => s.heap.size ≤ q) (by decide) (fl (Cond.arrayOf (Term.static "ResinWoods" "STRENGTH" "[I") .int) (by decide +kernel)) (va_eqt (fl (Cond.eq (.length (Term.static "ResinWoods" "STRENGTH" "[I")) (.int 10)) (by decide +kernel))) yS hA
  have zS := va_Zref (A := fun q : Nat => s.heap.size ≤ q) (tb 484 (by decide +kernel) : (Cond.laysStatic "ResinWoods" "STRENGTH" "[I").before #[Value.ref b] s = true) (tb 31 (by decide +kernel) : (Cond.initialized "ResinWoods").before #[Value.ref b] s = true) vS hA
  have yR : ∀ j : Nat, j < 4 → (Term.elem (Term.static "ResinWoods" "ROSIN_PARTS" "[I") (.int (Int32.ofNat j))).eval #[Value.ref b] s none [] s = some ((fun j => Value.int (rosV j)) j) := fun j hj => by
    have : j = 0 ∨ j = 1 ∨ j = 2 ∨ j = 3 := by omega
    rcases this with rfl | rfl | rfl | rfl
    · exact va_eqt (fl (Cond.eq (.elem (Term.static "ResinWoods" "ROSIN_PARTS" "[I") (.int 0)) (.int 70)) (by decide +kernel))
    · exact va_eqt (fl (Cond.eq (.elem (Term.static "ResinWoods" "ROSIN_PARTS" "[I") (.int 1)) (.int 65)) (by decide +kernel))
    · exact va_eqt (fl (Cond.eq (.elem (Term.static "ResinWoods" "ROSIN_PARTS" "[I") (.int 2)) (.int 60)) (by decide +kernel))
    · exact va_eqt (fl (Cond.eq (.elem (Term.static "ResinWoods" "ROSIN_PARTS" "[I") (.int 3)) (.int 55)) (by decide +kernel))
  obtain ⟨tR, vR, xR⟩ := va_Tof (tm := (Term.static "ResinWoods" "ROSIN_PARTS" "[I")) (ty := .int) (N := 4) (f := (fun j => Value.int (rosV j))) (A := fun q : Nat => s.heap.size ≤ q) (by decide) (fl (Cond.arrayOf (Term.static "ResinWoods" "ROSIN_PARTS" "[I") .int) (by decide +kernel)) (va_eqt (fl (Cond.eq (.length (Term.static "ResinWoods" "ROSIN_PARTS" "[I")) (.int 4)) (by decide +kernel))) yR hA
  have zR := va_Zref (A := fun q : Nat => s.heap.size ≤ q) (tb 618 (by decide +kernel) : (Cond.laysStatic "ResinWoods" "ROSIN_PARTS" "[I").before #[Value.ref b] s = true) (tb 31 (by decide +kernel) : (Cond.initialized "ResinWoods").before #[Value.ref b] s = true) vR hA
  have yD : ∀ j : Nat, j < 0 → (Term.elem (Term.static "java/util/ArrayList" "DEFAULTCAPACITY_EMPTY_ELEMENTDATA" "[Ljava/lang/Object;") (.int (Int32.ofNat j))).eval #[Value.ref b] s none [] s = some ((fun _ => Value.null) j) := fun j hj => by
    exact absurd hj (Nat.not_lt_zero j)
  obtain ⟨tD, vD, xD⟩ := va_Tof (tm := (Term.static "java/util/ArrayList" "DEFAULTCAPACITY_EMPTY_ELEMENTDATA" "[Ljava/lang/Object;")) (ty := (.object "java/lang/Object")) (N := 0) (f := (fun _ => Value.null)) (A := fun q : Nat => s.heap.size ≤ q) (by decide) (fl (Cond.arrayOf (Term.static "java/util/ArrayList" "DEFAULTCAPACITY_EMPTY_ELEMENTDATA" "[Ljava/lang/Object;") (.object "java/lang/Object")) (by decide +kernel)) (va_eqt (fl (Cond.eq (.length (Term.static "java/util/ArrayList" "DEFAULTCAPACITY_EMPTY_ELEMENTDATA" "[Ljava/lang/Object;")) (.int 0)) (by decide +kernel))) yD hA
  have zD := va_Zref (A := fun q : Nat => s.heap.size ≤ q) (tb 72 (by decide +kernel) : (Cond.laysStatic "java/util/ArrayList" "DEFAULTCAPACITY_EMPTY_ELEMENTDATA" "[Ljava/lang/Object;").before #[Value.ref b] s = true) (tb 34 (by decide +kernel) : (Cond.initialized "java/util/ArrayList").before #[Value.ref b] s = true) vD hA
  obtain ⟨mi, hmi⟩ := va_Mi.of (fl (Cond.isRef (.mirror "[Ljava/lang/Object;")) (by decide +kernel))
  have hNs : xNs s := ⟨va_Nw.of rfl (tb 483 (by decide +kernel) : (Cond.fieldLinkNest RX1 54 RX6 "STRENGTH" "[I" RX6).before #[Value.ref b] s = true), va_Nw.of rfl (tb 617 (by decide +kernel) : (Cond.fieldLinkNest RX0 58 RX6 "ROSIN_PARTS" "[I" RX6).before #[Value.ref b] s = true), va_Nw.of rfl (tb 681 (by decide +kernel) : (Cond.methodLinkNest RX6 294 yX2_visit RX6).before #[Value.ref b] s = true), va_Nw.of rfl (tb 88 (by decide +kernel) : (Cond.methodLinkNest RX6 34 yX3_init RX6).before #[Value.ref b] s = true), va_Nw.of rfl (tb 110 (by decide +kernel) : (Cond.methodLinkNest RX6 41 yX2_init RX6).before #[Value.ref b] s = true), va_Nw.of rfl (tb 489 (by decide +kernel) : (Cond.methodLinkNest RX1 57 yX6_yearOf RX6).before #[Value.ref b] s = true), va_Nw.of rfl (tb 118 (by decide +kernel) : (Cond.methodLinkNest RX2 39 yX1_init RX6).before #[Value.ref b] s = true), va_Nw.of rfl (tb 150 (by decide +kernel) : (Cond.methodLinkNest RX2 46 yX3_init RX6).before #[Value.ref b] s = true), va_Nw.of rfl (tb 458 (by decide +kernel) : (Cond.methodLinkNest RX4 51 yX1_init RX6).before #[Value.ref b] s = true), va_Nw.of rfl (tb 449 (by decide +kernel) : (Cond.methodLinkNest RX4 52 yX6_yearOf RX6).before #[Value.ref b] s = true)⟩
  have hF1 : va_Fw RJx4a65c ⟨"java/util/List", "size", "()I"⟩ yJx4a65c_size_8abf5 s := va_Fw.of (tb 280 (by decide +kernel) : (Cond.declares ⟨"java/util/List", "size", "()I"⟩).before #[Value.ref b] s = true) (tb 279 (by decide +kernel) : (Cond.interfaceMethod "java/util/List" "java/util/List" "size" "()I").before #[Value.ref b] s = true) (tb 285 (by decide +kernel) : (Cond.publicMethod yJx4a65c_size_8abf5).before #[Value.ref b] s = true) (tb 283 (by decide +kernel) : (Cond.unhidden RJx4a65c "size" "()I").before #[Value.ref b] s = true) (tb 281 (by decide +kernel) : (Cond.castable RJx4a65c "java/util/List").before #[Value.ref b] s = true)
  have hF2 : va_Fw RJx4a65c ⟨"java/util/List", "get", "(I)Ljava/lang/Object;"⟩ yJx4a65c_get_915e3 s := va_Fw.of (tb 409 (by decide +kernel) : (Cond.declares ⟨"java/util/List", "get", "(I)Ljava/lang/Object;"⟩).before #[Value.ref b] s = true) (tb 408 (by decide +kernel) : (Cond.interfaceMethod "java/util/List" "java/util/List" "get" "(I)Ljava/lang/Object;").before #[Value.ref b] s = true) (tb 413 (by decide +kernel) : (Cond.publicMethod yJx4a65c_get_915e3).before #[Value.ref b] s = true) (tb 411 (by decide +kernel) : (Cond.unhidden RJx4a65c "get" "(I)Ljava/lang/Object;").before #[Value.ref b] s = true) (tb 281 (by decide +kernel) : (Cond.castable RJx4a65c "java/util/List").before #[Value.ref b] s = true)
  have hF3 : va_Fw RJx4a65c ⟨"java/util/List", "add", "(Ljava/lang/Object;)Z"⟩ yJx4a65c_add_9ea2d s := va_Fw.of (tb 329 (by decide +kernel) : (Cond.declares ⟨"java/util/List", "add", "(Ljava/lang/Object;)Z"⟩).before #[Value.ref b] s = true) (tb 328 (by decide +kernel) : (Cond.interfaceMethod "java/util/List" "java/util/List" "add" "(Ljava/lang/Object;)Z").before #[Value.ref b] s = true) (tb 333 (by decide +kernel) : (Cond.publicMethod yJx4a65c_add_9ea2d).before #[Value.ref b] s = true) (tb 331 (by decide +kernel) : (Cond.unhidden RJx4a65c "add" "(Ljava/lang/Object;)Z").before #[Value.ref b] s = true) (tb 281 (by decide +kernel) : (Cond.castable RJx4a65c "java/util/List").before #[Value.ref b] s = true)
  refine ⟨((dC, dI), fun k => match k with | 0 => aI | 1 => aZ | 2 => aB | 3 => aW | 4 => aO | 5 => aA | 10 => tS | 11 => tR | 12 => tD | _ => mi), ⟨hKc, fun k q hq => ?_⟩, ⟨zS, xS, zR, xR, zD, xD⟩, hNs, hF1, hF2, hF3, va_AO.of (tb 377 (by decide +kernel) : (Cond.arrayOver (.object "java/lang/Object")).before #[Value.ref b] s = true), va_AO.of (tb 58 (by decide +kernel) : (Cond.arrayOver (.object "ResinWoods$Wood")).before #[Value.ref b] s = true), hmi, va_Dc.of (tb 999 (by decide +kernel) : (Cond.declares ⟨"java/lang/Object", "getClass", "()Ljava/lang/Class;"⟩).before #[Value.ref b] s = true), va_Nw.of rfl (tb 995 (by decide +kernel) : (Cond.castable RX4 "java/lang/Object").before #[Value.ref b] s = true), va_Nw.of rfl (tb 993 (by decide +kernel) : (Cond.castable RX1 "java/lang/Object").before #[Value.ref b] s = true), va_Nw.of rfl (tb 996 (by decide +kernel) : (Cond.castable RX0 "java/lang/Object").before #[Value.ref b] s = true), xAA_of (tb 115 (by decide +kernel) : (Cond.arrayOver (.array .int)).before #[Value.ref b] s = true)⟩
  match k, hq with
  | 0, hq => cases hq; exact ⟨fun n z => ⟨fun k h => (by cases h), bI, gI, eI, jI⟩, fI⟩
  | 1, hq => cases hq; exact ⟨fun n z => ⟨fun k h => (by cases h), bZ, gZ, eZ, jZ⟩, fZ⟩
  | 2, hq => cases hq; exact ⟨fun n z => ⟨fun k h => (by cases h), bB, gB, eB, jB⟩, fB⟩
  | 3, hq => cases hq; exact ⟨fun n z => ⟨fun k h => (by cases h), bW, gW, eW, jW⟩, bW, eW, gW, jW, mW, fW⟩
  | 4, hq => cases hq; exact ⟨fun n z => ⟨fun k h => (by cases h), bO, gO, eO, jO⟩, bO, eO, gO, jO, mO, fO⟩
  | 5, hq => cases hq; exact ⟨fun n z => ⟨fun k h => (by cases h), bA, gA, eA, jA⟩, fA⟩
  | k + 6, hq => simp [xt] at hq
