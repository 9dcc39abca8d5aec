
theorem mx_nat {a b : Nat} (ha : a < 2 ^ 31) (hb : b < 2 ^ 31) : (if nI a < nI b then nI b else nI a) = nI (if a < b then b else a) := by
  by_cases h : a < b
  · rw [if_pos h, if_pos ((nI_ltI ha hb).mpr h)]
  · rw [if_neg h, if_neg (fun z => h ((nI_ltI ha hb).mp z))]
theorem mn_nat {a b : Nat} (ha : a < 2 ^ 31) (hb : b < 2 ^ 31) : (if nI b < nI a then nI b else nI a) = nI (if b < a then b else a) := by
  by_cases h : b < a
  · rw [if_pos h, if_pos ((nI_ltI hb ha).mpr h)]
  · rw [if_neg h, if_neg (fun z => h ((nI_ltI hb ha).mp z))]

set_option maxHeartbeats 4000000 in
set_option maxRecDepth 100000 in
theorem c_J8_newLength_cabcc (l : Launch) (G : XG) (A : Nat → Prop) (w : XW) (o mi pr mx : Nat) (hmx : mx = if mi < pr then pr else mi) (h1 : 1 ≤ mx) (hmi : mi ≤ 1000) (hpr : pr ≤ 1000) (hmx2 : o + mx ≤ 100000) : Met l yJ8_newLength_cabcc wsJ8_newLength_cabcc ({ frames := 1, cells := 0, slots := 0, locals := 21 }) (va_Pc [.int (nI o), .int (nI mi), .int (nI pr)] (xP G A (w))) (va_Qi (fun (r : Int32) (u : Unit) => r = nI (o + mx)) (fun u t => xB G A (w) t) A) 0 0 A := by
  refine Met.ofW (cc := cJ8_newLength_cabcc) (maxL := 4) (ret := (some .int)) (by decide) rfl ?_
  intro p e s m args below meth c s₁ B hml hv
  obtain ⟨rfl, hK, hH, hTt⟩ := hv
  have hx := B.exec
  have hb := B.bytes
  have hr := B.returns
  have hts := atoms_spec (ws := wsJ8_newLength_cabcc) B.pre
  have hown : s.vm.findClass RJ8 = some m.cls := findClass_of_methodNamed B.named
  have hlocks := B.notSynchronized
  have hl := lv_entry ([.int (nI o), .int (nI mi), .int (nI pr)]) (n := 4) (Nat.le_of_ble_eq_true rfl)
  rw [lg_entry_eq]
  generalize (lg_sl ([.int (nI o), .int (nI mi), .int (nI pr)]) ++ List.replicate (4 - (lg_sl ([.int (nI o), .int (nI mi), .int (nI pr)])).length) Slot.unset).toArray = ls at hl ⊢
  have hl : lv_has ls 4 [(0, .int (nI o)), (1, .int (nI mi)), (2, .int (nI pr))] := hl
  refine lv_iload_n hx hb dJ8_newLength_cabcc_0 rfl (lv_at hl 0 rfl) ?_
  refine lv_iload_n hx hb dJ8_newLength_cabcc_1 rfl (lv_at hl 1 rfl) ?_
  refine lv_iload_n hx hb dJ8_newLength_cabcc_2 rfl (lv_at hl 2 rfl) ?_
  refine va_mmax hx hb (by rw [hml]; exact hl.1.symm) hown (hts (.methodLink RJ8 194 Lib.Math.max.name) (by decide +kernel)) (hts (.static Lib.Math.max.name) (by decide +kernel)) (hts (.initialized "java/lang/Math") (by decide +kernel)) (hts (.code Lib.Math.max.name Lib.Math.max.code 2 (some .int)) (by decide +kernel)) (Nat.le_of_ble_eq_true rfl) (Nat.le_of_ble_eq_true rfl) (Nat.le_of_ble_eq_true rfl) (Nat.le_of_ble_eq_true rfl) dJ8_newLength_cabcc_3 ?_
  refine lv_topi (fun v6 ev6 => ?_)
  have hv6 : v6 = nI mx := ev6.trans ((mx_nat (by omega) (by omega)).trans (congrArg nI hmx.symm))
  subst hv6
  refine N_iadd hx hb o mx rfl rfl dJ8_newLength_cabcc_6 ?_
  refine lv_istore_n (lv' := [(3, .int (nI (o + mx))), (0, .int (nI o)), (1, .int (nI mi)), (2, .int (nI pr))]) hx hb dJ8_newLength_cabcc_7 rfl hl (by decide) rfl (fun ls hl => ?_)
  refine lv_iconst (v := 0) hx hb dJ8_newLength_cabcc_8 (by decide) ?_
  refine lv_iload_n hx hb dJ8_newLength_cabcc_9 rfl (lv_at hl 0 rfl) ?_
  refine lv_icmp_ge (tgt := 21) hx hb dJ8_newLength_cabcc_10 (by decide) (fun c10 => ?_) (fun c10 => ?_)
  · have c10 : (o + mx) ≤ 0 := (nI_leI (a := (o + mx)) (b := 0) (by omega) (by omega)).mp c10
    exact absurd c10 (by omega)
  · have c10 : ¬ (o + mx) ≤ 0 := fun zz => c10 ((nI_leI (a := (o + mx)) (b := 0) (by omega) (by omega)).mpr zz)
    refine lv_iload_n hx hb dJ8_newLength_cabcc_13 rfl (lv_at hl 0 rfl) ?_
    refine lv_ldc (v := 2147483639) hx hb hown (hts (.constant RJ8 200 (2147483639)) (by decide +kernel)) dJ8_newLength_cabcc_14 ?_
    refine lv_icmp_gt (tgt := 21) hx hb dJ8_newLength_cabcc_16 (by decide) (fun c16 => ?_) (fun c16 => ?_)
    · have c16 : 2147483639 < (o + mx) := (nI_ltI (a := 2147483639) (b := (o + mx)) (by omega) (by omega)).mp c16
      exact absurd c16 (by omega)
    · have c16 : ¬ 2147483639 < (o + mx) := fun zz => c16 ((nI_ltI (a := 2147483639) (b := (o + mx)) (by omega) (by omega)).mpr zz)
      refine lv_iload_n hx hb dJ8_newLength_cabcc_19 rfl (lv_at hl 0 rfl) ?_
      exact x_iret (v := nI (o + mx)) () hx hb hr hlocks hK hH (rfl) dJ8_newLength_cabcc_20

set_option maxHeartbeats 4000000 in
set_option maxRecDepth 100000 in
theorem c_J7_copyOf_6403c (l : Launch) (G : XG) (A : Nat → Prop) (w : XW) (ed : Nat) (cap : Nat) (fn : Nat → Option Nat) (hc_ed : w ed = some (.inl (G.2 4, cap, .inr (.inr (.inr (.inr fn)))))) (nl ci : Nat) (rC : vw_C) (hrC : vwCl[ci]? = some rC) (hca : ∀ U, xLs G U → va_Nw (.castable rC.1 "java/lang/Object") U) (hel : ∀ i y : Nat, fn i = some y → ∃ vs, w y = some (.inr (ci, vs))) (hcn : cap ≤ nl) (hnl : nl ≤ 300) : Met l yJ7_copyOf_6403c wsJ7_copyOf_6403c ({ frames := 1, cells := 1, slots := 300, locals := 60 }) (va_Pc [.ref ed, .int (nI nl), .ref (G.2 13)] (xP G A (w))) (va_Qq (fun (r : Option Nat) (u : XW) => ∃ q, r = some q ∧ w q = none ∧ u q = some (.inl (G.2 4, nl, .inr (.inr (.inr (.inr (va_cpy fn (fun _ => none) 0 0 cap)))))) ∧ ∀ y, y ≠ q → u y = w y) (fun u t => xB G A (u) t) A) 1 300 A := by
  refine Met.ofW (cc := cJ7_copyOf_6403c) (maxL := 4) (ret := (some (.array (.object "java/lang/Object")))) (by decide) rfl ?_
  intro p e s m args below meth c s₁ B hml hv
  obtain ⟨rfl, hK, hH, hTt⟩ := hv
  have hx := B.exec
  have hb := B.bytes
  have hr := B.returns
  have hts := atoms_spec (ws := wsJ7_copyOf_6403c) B.pre
  have hown : s.vm.findClass RJ7 = some m.cls := findClass_of_methodNamed B.named
  have hlocks := B.notSynchronized
  have hl := lv_entry ([.ref ed, .int (nI nl), .ref (G.2 13)]) (n := 4) (Nat.le_of_ble_eq_true rfl)
  rw [lg_entry_eq]
  generalize (lg_sl ([.ref ed, .int (nI nl), .ref (G.2 13)]) ++ List.replicate (4 - (lg_sl ([.ref ed, .int (nI nl), .ref (G.2 13)])).length) Slot.unset).toArray = ls at hl ⊢
  have hl : lv_has ls 4 [(0, .ref ed), (1, .int (nI nl)), (2, .ref (G.2 13))] := hl
  have hca := hca s hTt.2.2
  refine lv_aload_n hx hb dJ7_copyOf_6403c_0 rfl (lv_at hl 2 rfl) ?_
  refine va_ldcM hx hb hown (hts (.classLink RJ7 110 "[Ljava/lang/Object;") (by decide +kernel)) hTt.2.2.2.2.2.2.2.1 dJ7_copyOf_6403c_1 ?_
  refine lv_acmp_ne (rx := some (G.2 13)) (ry := some (G.2 13)) (tgt := 13) hx hb dJ7_copyOf_6403c_3 (by decide) (fun z9 => absurd rfl z9) (fun _ => ?_)
  refine lv_iload_n hx hb dJ7_copyOf_6403c_6 rfl (lv_at hl 1 rfl) ?_
  refine x_newq (z := 4) hx hb rfl hown (hts (.classLink RJ7 2 "java/lang/Object") (by decide +kernel)) hTt.2.2.2.2.2.1 hK hH nl rfl (by omega) (Nat.le_of_ble_eq_true rfl) (by show 0 + nl ≤ 300; omega) dJ7_copyOf_6403c_7 (fun q H hq hH => ?_)
  have ne_ed_q : ed ≠ q := fun e9 => by rw [e9, hq] at hc_ed; cases hc_ed
  have ne_q_ed : q ≠ ed := fun e9 => ne_ed_q e9.symm
  obtain ⟨w7, ew7⟩ : ∃ z, z = va_up w q (some (.inl (G.2 4, nl, .inr (.inr (.inr (.inr (fun _ => none))))))) := ⟨_, rfl⟩
  rw [← ew7] at hH
  have hc_q : w7 q = some (.inl (G.2 4, nl, .inr (.inr (.inr (.inr (fun _ => none)))))) := by rw [ew7]; exact if_pos rfl
  have hc_ed : w7 ed = some (.inl (G.2 4, cap, .inr (.inr (.inr (.inr fn))))) := by rw [ew7]; exact (if_neg ne_ed_q).trans hc_ed
  have hel7 : ∀ i y : Nat, fn i = some y → ∃ vs, w7 y = some (.inr (ci, vs)) := fun i y hy => by obtain ⟨vs, hv⟩ := hel i y hy; refine ⟨vs, ?_⟩; rw [ew7]; exact (if_neg (fun e9 => by rw [e9, hq] at hv; cases hv)).trans hv
  refine lv_goto (tgt := 24) hx hb dJ7_copyOf_6403c_10 (by decide) ?_
  refine lv_astore_n (lv' := [(3, .ref q), (0, .ref ed), (1, .int (nI nl)), (2, .ref (G.2 13))]) hx hb dJ7_copyOf_6403c_24 rfl hl (by decide) rfl (fun ls hl => ?_)
  refine lv_aload_n hx hb dJ7_copyOf_6403c_25 rfl (lv_at hl 1 rfl) ?_
  refine lv_iconst (v := 0) hx hb dJ7_copyOf_6403c_26 (by decide) ?_
  refine lv_aload_n hx hb dJ7_copyOf_6403c_27 rfl (lv_at hl 0 rfl) ?_
  refine lv_iconst (v := 0) hx hb dJ7_copyOf_6403c_28 (by decide) ?_
  refine lv_aload_n hx hb dJ7_copyOf_6403c_29 rfl (lv_at hl 1 rfl) ?_
  refine x_alen hx hb hK hH 4 hc_ed (v := nI cap) rfl rfl dJ7_copyOf_6403c_30 ?_
  refine lv_iload_n hx hb dJ7_copyOf_6403c_31 rfl (lv_at hl 2 rfl) ?_
  refine va_mmin hx hb (by rw [hml]; exact hl.1.symm) hown (hts (.methodLink RJ7 304 Lib.Math.min.name) (by decide +kernel)) (hts (.static Lib.Math.min.name) (by decide +kernel)) (hts (.initialized "java/lang/Math") (by decide +kernel)) (hts (.code Lib.Math.min.name Lib.Math.min.code 2 (some .int)) (by decide +kernel)) (Nat.le_of_ble_eq_true rfl) (Nat.le_of_ble_eq_true rfl) (Nat.le_of_ble_eq_true rfl) (by show 0 + nl ≤ 300; omega) dJ7_copyOf_6403c_32 ?_
  refine lv_topi (fun v35 ev35 => ?_)
  have hv35 : v35 = nI cap := ev35.trans ((mn_nat (by omega) (by omega)).trans (congrArg nI (if_neg (by omega))))
  refine x_copyq (ci := ci) (r := rC) hx hb (by rw [hml]; exact hl.1.symm) hown (hts (.methodLink RJ7 150 arraycopyName) (by decide +kernel)) (hts (.native arraycopyName) (by decide +kernel)) (hts (.static arraycopyName) (by decide +kernel)) (hts (.initialized "java/lang/System") (by decide +kernel)) hK hH hc_ed hc_q hrC hca hel7 cap hv35 (Nat.le_refl _) (by omega) (by omega) (Nat.le_of_ble_eq_true rfl) (Nat.le_of_ble_eq_true rfl) dJ7_copyOf_6403c_35 (fun H locs hH => ?_)
  obtain ⟨w35, ew35⟩ : ∃ z, z = va_up w7 q (some (.inl (G.2 4, nl, .inr (.inr (.inr (.inr (va_cpy fn (fun _ => none) 0 0 cap))))))) := ⟨_, rfl⟩
  rw [← ew35] at hH
  refine lv_aload_n hx hb dJ7_copyOf_6403c_38 rfl (lv_at hl 0 rfl) ?_
  refine W.widen (k := 1) (n := 300) (Nat.le_of_ble_eq_true rfl) (by show 0 + nl ≤ 300; omega) ?_
  exact x_aret (r := some q) w35 hx hb hr hlocks (Or.inr ⟨_, rfl⟩) hK hH (⟨q, rfl, hq, by rw [ew35]; exact if_pos rfl, fun y hy => by rw [ew35]; refine (if_neg hy).trans ?_; rw [ew7]; exact if_neg hy⟩) dJ7_copyOf_6403c_39
