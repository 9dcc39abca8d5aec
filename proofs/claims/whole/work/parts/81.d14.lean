theorem nx_and (a b : Nat) : nI a &&& nI b = nI (a &&& b) := by
  apply Int32.toBitVec_inj.1
  show BitVec.ofNat 32 a &&& BitVec.ofNat 32 b = BitVec.ofNat 32 (a &&& b)
  apply BitVec.eq_of_getLsbD_eq
  intro i hi
  simp [hi]
theorem ush_nat {n k : Nat} (hn : n < 2 ^ 32) (hk : k < 32) : ((nI n).toUInt32 >>> ((nI k).toUInt32 &&& Int32.toUInt32 31)).toInt32 = nI (n / 2 ^ k) := pk_ushrN hn (nI k) k (s_u k hk)
section NA
variable {p : Program} {l : Launch} {e : Env} {R : Room} {s : State} {m : MethodId} {args : Array Value} {below : List Frame} {meth : Method} {c : Code} {H : Heap} {locs : List Loc} {cells slots : Nat} {Q : State → Prop}
variable {cc : ByteArray} {pc : Nat} {ls : Array Slot} {rest : List Value}
theorem N_iand (hexec : p.tables.exec = Jvm.exec) (hb : c.code = cc) {x y : Int32} (i j : Nat) (hx : x = nI i) (hy : y = nI j) (hdg : decode cc pc = .ok (.iand, 1)) (kk : W p l e R s m args below meth c H locs cells slots Q (F0 m (pc + 1) ls (.int (nI (i &&& j)) :: rest))) : W p l e R s m args below meth c H locs cells slots Q (F0 m pc ls (.int y :: .int x :: rest)) := by
  refine lv_iand hexec hb hdg ?_
  rw [hx, hy, nx_and]
  exact kk
end NA
theorem i32_nat (v : Int32) : ∃ n, n < 2 ^ 32 ∧ v = nI n := ⟨v.toBitVec.toNat, v.toBitVec.isLt, Int32.toBitVec_inj.mp (by show _ = BitVec.ofNat 32 _; simp)⟩

set_option maxHeartbeats 4000000 in
set_option maxRecDepth 100000 in
theorem c_J6_bitCount_0f7a4 (l : Launch) (G : XG) (A : Nat → Prop) (w : XW) (n : Nat) (hn : n < 2 ^ 32) : Met l yJ6_bitCount_0f7a4 wsJ6_bitCount_0f7a4 ({ frames := 0, cells := 0, slots := 0, locals := 0 }) (va_Pc [.int (nI n)] (xP G A (w))) (va_Qi (fun (r : Int32) (u : Unit) => r = nI (bcN n)) (fun u t => xB G A (w) t) A) 0 0 A := by
  refine Met.ofW (cc := cJ6_bitCount_0f7a4) (maxL := 1) (ret := (some .int)) (by decide) rfl ?_
  intro p e s m args below meth c s₁ B hml hv
  obtain ⟨rfl, hK, hH, hTt⟩ := hv
  have hx := B.exec
  have hb := B.bytes
  have hr := B.returns
  have hts := atoms_spec (ws := wsJ6_bitCount_0f7a4) B.pre
  have hown : s.vm.findClass RJ6 = some m.cls := findClass_of_methodNamed B.named
  have hlocks := B.notSynchronized
  have hl := lv_entry ([.int (nI n)]) (n := 1) (Nat.le_of_ble_eq_true rfl)
  rw [lg_entry_eq]
  generalize (lg_sl ([.int (nI n)]) ++ List.replicate (1 - (lg_sl ([.int (nI n)])).length) Slot.unset).toArray = ls at hl ⊢
  have hl : lv_has ls 1 [(0, .int (nI n))] := hl
  refine lv_iload_n hx hb dJ6_bitCount_0f7a4_0 rfl (lv_at hl 0 rfl) ?_
  refine lv_iload_n hx hb dJ6_bitCount_0f7a4_1 rfl (lv_at hl 0 rfl) ?_
  refine lv_iconst (v := 1) hx hb dJ6_bitCount_0f7a4_2 (by decide) ?_
  refine lv_iushr (v := nI (n / 2)) hx hb dJ6_bitCount_0f7a4_3 (ush_nat (k := 1) (by omega) (by decide)) ?_
  refine lv_ldcw (v := 1431655765) hx hb hown (hts (.constant RJ6 265 (1431655765)) (by decide +kernel)) dJ6_bitCount_0f7a4_4 ?_
  refine N_iand hx hb (n / 2) 1431655765 rfl rfl dJ6_bitCount_0f7a4_7 ?_
  refine N_isub hx hb n ((n / 2) &&& 1431655765) rfl rfl (bcN_parts hn) dJ6_bitCount_0f7a4_8 ?_
  obtain ⟨x1, hx1⟩ : ∃ z, z = n - ((n / 2) &&& 1431655765) := ⟨_, rfl⟩
  rw [← hx1]
  have lx1 : x1 < 2 ^ 32 := by rw [hx1]; omega
  refine lv_istore_n (lv' := [(0, .int (nI x1))]) hx hb dJ6_bitCount_0f7a4_9 rfl hl (by decide) rfl (fun ls hl => ?_)
  refine lv_iload_n hx hb dJ6_bitCount_0f7a4_10 rfl (lv_at hl 0 rfl) ?_
  refine lv_ldcw (v := 858993459) hx hb hown (hts (.constant RJ6 266 (858993459)) (by decide +kernel)) dJ6_bitCount_0f7a4_11 ?_
  refine N_iand hx hb x1 858993459 rfl rfl dJ6_bitCount_0f7a4_14 ?_
  refine lv_iload_n hx hb dJ6_bitCount_0f7a4_15 rfl (lv_at hl 0 rfl) ?_
  refine lv_iconst (v := 2) hx hb dJ6_bitCount_0f7a4_16 (by decide) ?_
  refine lv_iushr (v := nI (x1 / 4)) hx hb dJ6_bitCount_0f7a4_17 (ush_nat (k := 2) (by omega) (by decide)) ?_
  refine lv_ldcw (v := 858993459) hx hb hown (hts (.constant RJ6 266 (858993459)) (by decide +kernel)) dJ6_bitCount_0f7a4_18 ?_
  refine N_iand hx hb (x1 / 4) 858993459 rfl rfl dJ6_bitCount_0f7a4_21 ?_
  refine N_iadd hx hb (x1 &&& 858993459) ((x1 / 4) &&& 858993459) rfl rfl dJ6_bitCount_0f7a4_22 ?_
  obtain ⟨x2, hx2⟩ : ∃ z, z = (x1 &&& 858993459) + ((x1 / 4) &&& 858993459) := ⟨_, rfl⟩
  rw [← hx2]
  have lx2 : x2 ≤ 858993459 + 858993459 := by rw [hx2]; exact Nat.add_le_add Nat.and_le_right Nat.and_le_right
  refine lv_istore_n (lv' := [(0, .int (nI x2))]) hx hb dJ6_bitCount_0f7a4_23 rfl hl (by decide) rfl (fun ls hl => ?_)
  refine lv_iload_n hx hb dJ6_bitCount_0f7a4_24 rfl (lv_at hl 0 rfl) ?_
  refine lv_iload_n hx hb dJ6_bitCount_0f7a4_25 rfl (lv_at hl 0 rfl) ?_
  refine lv_iconst (v := 4) hx hb dJ6_bitCount_0f7a4_26 (by decide) ?_
  refine lv_iushr (v := nI (x2 / 16)) hx hb dJ6_bitCount_0f7a4_27 (ush_nat (k := 4) (by omega) (by decide)) ?_
  refine N_iadd hx hb x2 (x2 / 16) rfl rfl dJ6_bitCount_0f7a4_28 ?_
  refine lv_ldcw (v := 252645135) hx hb hown (hts (.constant RJ6 267 (252645135)) (by decide +kernel)) dJ6_bitCount_0f7a4_29 ?_
  refine N_iand hx hb (x2 + (x2 / 16)) 252645135 rfl rfl dJ6_bitCount_0f7a4_32 ?_
  obtain ⟨x3, hx3⟩ : ∃ z, z = (x2 + (x2 / 16)) &&& 252645135 := ⟨_, rfl⟩
  rw [← hx3]
  have lx3 : x3 ≤ 252645135 := by rw [hx3]; exact Nat.and_le_right
  refine lv_istore_n (lv' := [(0, .int (nI x3))]) hx hb dJ6_bitCount_0f7a4_33 rfl hl (by decide) rfl (fun ls hl => ?_)
  refine lv_iload_n hx hb dJ6_bitCount_0f7a4_34 rfl (lv_at hl 0 rfl) ?_
  refine lv_iload_n hx hb dJ6_bitCount_0f7a4_35 rfl (lv_at hl 0 rfl) ?_
  refine lv_bipush (v := 8) hx hb dJ6_bitCount_0f7a4_36 (by decide) ?_
  refine lv_iushr (v := nI (x3 / 256)) hx hb dJ6_bitCount_0f7a4_38 (ush_nat (k := 8) (by omega) (by decide)) ?_
  refine N_iadd hx hb x3 (x3 / 256) rfl rfl dJ6_bitCount_0f7a4_39 ?_
  obtain ⟨x4, hx4⟩ : ∃ z, z = x3 + (x3 / 256) := ⟨_, rfl⟩
  rw [← hx4]
  have lx4 : x4 < 2 ^ 31 := by rw [hx4]; omega
  refine lv_istore_n (lv' := [(0, .int (nI x4))]) hx hb dJ6_bitCount_0f7a4_40 rfl hl (by decide) rfl (fun ls hl => ?_)
  refine lv_iload_n hx hb dJ6_bitCount_0f7a4_41 rfl (lv_at hl 0 rfl) ?_
  refine lv_iload_n hx hb dJ6_bitCount_0f7a4_42 rfl (lv_at hl 0 rfl) ?_
  refine lv_bipush (v := 16) hx hb dJ6_bitCount_0f7a4_43 (by decide) ?_
  refine lv_iushr (v := nI (x4 / 65536)) hx hb dJ6_bitCount_0f7a4_45 (ush_nat (k := 16) (by omega) (by decide)) ?_
  refine N_iadd hx hb x4 (x4 / 65536) rfl rfl dJ6_bitCount_0f7a4_46 ?_
  obtain ⟨x5, hx5⟩ : ∃ z, z = x4 + (x4 / 65536) := ⟨_, rfl⟩
  rw [← hx5]
  have lx5 : x5 < 2 ^ 32 := by rw [hx5]; omega
  refine lv_istore_n (lv' := [(0, .int (nI x5))]) hx hb dJ6_bitCount_0f7a4_47 rfl hl (by decide) rfl (fun ls hl => ?_)
  refine lv_iload_n hx hb dJ6_bitCount_0f7a4_48 rfl (lv_at hl 0 rfl) ?_
  refine lv_bipush (v := 63) hx hb dJ6_bitCount_0f7a4_49 (by decide) ?_
  refine N_iand hx hb x5 63 rfl rfl dJ6_bitCount_0f7a4_51 ?_
  exact x_iret (v := nI (x5 &&& 63)) () hx hb hr hlocks hK hH (by rw [hx5, hx4, hx3, hx2, hx1]; rfl) dJ6_bitCount_0f7a4_52
