
/-! THE MODEL IS MADE -/
def mZ : Nat → Nat → Int32 := fun _ _ => 0
def mwp (G : XG) (ρ : Nat → Option Nat) (b : XW) (fs : List Value) : XW := fun a => match ρ a with
  | some k => some (if k = 0 then .inr (8, fs) else .inl (G.2 (mz k), mlen k, .inl (mZ k)))
  | none => b a
def mPb (b : XW) (L : List Nat) (ρ : Nat → Option Nat) (ad : Nat → Nat) : Prop := (∀ k, k ∈ L → ρ (ad k) = some k) ∧ ∀ a k, ρ a = some k → k ∈ L ∧ a = ad k ∧ b a = none
def mdef : List Value := [.int 0, .null, .null, .int 0, .null, .null, .null, .null, .null, .null, .null, .null, .null, .null, .null, .null, .int 0, .null, .null, .null, .null, .null, .null, .null, .null, .null, .int 0, .int 0, .int 0, .int 0, .int 0, .int 0, .int 0, .null, .null, .null, .null, .int 0, .int 0]
theorem mwp_ob {G : XG} {ρ : Nat → Option Nat} {b : XW} {fs : List Value} {L : List Nat} {ad : Nat → Nat} (hm : mPb b L ρ ad) (h0 : 0 ∈ L) : mwp G ρ b fs (ad 0) = some (.inr (8, fs)) := by
  simp [mwp, hm.1 0 h0]
theorem mwp_put {G : XG} {ρ : Nat → Option Nat} {b : XW} {fs fs' : List Value} {L : List Nat} {ad : Nat → Nat} (hm : mPb b L ρ ad) (h0 : 0 ∈ L) : va_up (mwp G ρ b fs) (ad 0) (some (.inr (8, fs'))) = mwp G ρ b fs' := by
  funext a
  by_cases ha : a = ad 0
  · subst ha
    rw [mwp_ob hm h0]
    simp [va_up]
  · rw [show va_up (mwp G ρ b fs) (ad 0) (some (.inr (8, fs'))) a = mwp G ρ b fs a from if_neg ha]
    simp only [mwp]
    cases hr : ρ a with
    | none => rfl
    | some j =>
      have hj : j ≠ 0 := fun e => ha (by rw [(hm.2 a j hr).2.1, e])
      simp only [if_neg hj]
theorem mwp_none {G : XG} {ρ : Nat → Option Nat} {b : XW} {fs : List Value} {q : Nat} (h : mwp G ρ b fs q = none) : ρ q = none ∧ b q = none := by
  have hr : ρ q = none := by
    cases hh : ρ q with
    | none => rfl
    | some k => simp [mwp, hh] at h
  exact ⟨hr, by simpa [mwp, hr] using h⟩
theorem mwp_new {G : XG} {ρ : Nat → Option Nat} {b : XW} {fs : List Value} {q k n z : Nat} (h : mwp G ρ b fs q = none) (h0 : k ≠ 0) (hn : mlen k = n) (hz : mz k = z) : va_up (mwp G ρ b fs) q (some (.inl (G.2 z, n, .inl (fun _ => 0)))) = mwp G (va_up ρ q (some k)) b fs := by
  funext a
  by_cases ha : a = q
  · subst ha
    simp [va_up, mwp, h0, hn, hz]
    rfl
  · rw [show va_up (mwp G ρ b fs) q (some (.inl (G.2 z, n, .inl (fun _ => 0)))) a = mwp G ρ b fs a from if_neg ha]
    simp only [mwp]
    rw [show va_up ρ q (some k) a = ρ a from if_neg ha]
theorem mPb_new {G : XG} {ρ : Nat → Option Nat} {b : XW} {fs : List Value} {L : List Nat} {ad : Nat → Nat} {q k : Nat} (hm : mPb b L ρ ad) (h : mwp G ρ b fs q = none) (hk : k ∉ L) : mPb b (k :: L) (va_up ρ q (some k)) (va_up ad k q) := by
  obtain ⟨hr, hb⟩ := mwp_none h
  refine ⟨fun j hj => ?_, fun a j ha => ?_⟩
  · by_cases e : j = k
    · subst e
      simp [va_up]
    · have hjL : j ∈ L := by
        rcases List.mem_cons.mp hj with q | q
        · exact absurd q e
        · exact q
      rw [show va_up ad k q j = ad j from if_neg e]
      have hne : ad j ≠ q := fun z => by
        have := hm.1 j hjL
        rw [z, hr] at this
        cases this
      rw [show va_up ρ q (some k) (ad j) = ρ (ad j) from if_neg hne]
      exact hm.1 j hjL
  · by_cases e : a = q
    · subst e
      rw [show va_up ρ a (some k) a = some k from if_pos rfl] at ha
      cases ha
      exact ⟨List.mem_cons_self, by simp [va_up], hb⟩
    · rw [show va_up ρ q (some k) a = ρ a from if_neg e] at ha
      obtain ⟨h1, h2, h3⟩ := hm.2 a j ha
      have hjk : j ≠ k := fun z => hk (z ▸ h1)
      exact ⟨List.mem_cons_of_mem _ h1, by rw [show va_up ad k q j = ad j from if_neg hjk]; exact h2, h3⟩
section IR
variable {p : Program} {l : Launch} {e : Env} {R : Room} {s : State} {m : MethodId} {args : Array Value} {below : List Frame} {meth : Method} {c : Code} {H : Heap} {locs : List Loc} {cells slots : Nat} {Q : State → Prop}
variable {cc : ByteArray} {pc : Nat} {ls : Array Slot} {rest : List Value} {G : XG} {A : Nat → Prop} {H0 : Heap} {ρ : Nat → Option Nat} {ad : Nat → Nat} {b : XW} {fs : List Value} {L : List Nat}
theorem I_new (hexec : p.tables.exec = Jvm.exec) (hb : c.code = cc) (hK : xK G s) (hm : mPb b L ρ ad) (hH : xH G A H0 H locs (mwp G ρ b fs)) (k : Nat) {n z : Nat} (hk : k ∉ L ∧ k ≠ 0 ∧ mlen k = n ∧ mz k = z) {atype : ArrayType} {ty : FieldType} {v : Int32} (hat : (atype = .int ∧ z = 0 ∧ ty = .int) ∨ (atype = .boolean ∧ z = 1 ∧ ty = .boolean)) (harr : (Cond.arrayClass (newarray.typeOf atype)).before args s = true) (hv : v = nI n) (hn : n ≤ 12000) (hcells : cells + 1 ≤ R.cells) (hslots : slots + n ≤ R.slots) (hdg : decode cc pc = .ok (.newarray atype, 2))
    (kk : ∀ (q : Nat) (H1 : Heap), mPb b (k :: L) (va_up ρ q (some k)) (va_up ad k q) → xH G A H0 H1 locs (mwp G (va_up ρ q (some k)) b fs) → W p l e R s m args below meth c H1 locs (cells + 1) (slots + n) Q (F0 m (pc + 2) ls (.ref q :: rest))) : W p l e R s m args below meth c H locs cells slots Q (F0 m pc ls (.int v :: rest)) := by
  rcases hat with ⟨rfl, rfl, rfl⟩ | ⟨rfl, rfl, rfl⟩
  · refine x_newa hexec hb harr rfl 0 (cA := G.2 0) rfl (fun C h => by cases h) hK hH (N' := n) (a0 := (n, .inl (fun _ => 0))) (fun cA => rfl) (by rw [hv]; exact nI_pos (by omega)) (by rw [hv]; exact nI_clamp (by omega)) (by show n * 4 ≤ _; omega) hcells hslots hdg (fun q H1 hq h => kk q H1 (mPb_new hm hq hk.1) ?_)
    rw [mwp_new hq hk.2.1 hk.2.2.1 hk.2.2.2] at h
    exact h
  · refine x_newa hexec hb harr rfl 1 (cA := G.2 1) rfl (fun C h => by cases h) hK hH (N' := n) (a0 := (n, .inl (fun _ => 0))) (fun cA => rfl) (by rw [hv]; exact nI_pos (by omega)) (by rw [hv]; exact nI_clamp (by omega)) (by show n * 1 ≤ _; omega) hcells hslots hdg (fun q H1 hq h => kk q H1 (mPb_new hm hq hk.1) ?_)
    rw [mwp_new hq hk.2.1 hk.2.2.1 hk.2.2.2] at h
    exact h
theorem I_put (hexec : p.tables.exec = Jvm.exec) (hb : c.code = cc) {index : Nat} {Ts : List Cond} (hts : ∀ w ∈ Ts, w.before args s = true) (hin : ∀ w ∈ wsX70, w ∈ Ts) (hown : s.vm.findClass RX7 = some m.cls) (hK : xK G s) (hm : mPb b L ρ ad) (h0 : 0 ∈ L) {o : Nat} (ho : ad 0 = o) (hH : xH G A H0 H locs (mwp G ρ b fs)) (k : Nat) (hk : k < 39) (hlink : (Cond.fieldLink RX7 index (TX7 k).1 (TX7 k).2.1 (TX7 k).2.2.1).before args s = true) (hfin : (TX7 k).2.2.2 = true) (hmn : meth.name = "<init>") {ty : FieldType} {q : Nat} (hd : parseFieldDescriptor (TX7 k).2.2.1 = some (.array ty)) (hl : fs.length = 39) (hdecl : (TX7 k).1 = RX7) (hdg : decode cc pc = .ok (.putfield index, 3))
    (kk : ∀ (H1 : Heap) (locs1 : List Loc), xH G A H0 H1 locs1 (mwp G ρ b (fs.set k (.ref q))) → W p l e R s m args below meth c H1 locs1 cells slots Q (F0 m (pc + 3) ls rest)) : W p l e R s m args below meth c H locs cells slots Q (F0 m pc ls (.ref q :: .ref o :: rest)) := by
  subst ho
  exact x_putF (C := RX7) (T := TX7) (N := 39) (ty := .array ty) hexec hb hts hin tyX7 tyX7_ok nmX7 hown hK hH (mwp_ob hm h0) rfl k hk hlink (fun _ h => h) hfin hmn hdecl hd rfl rfl (by rw [hl]; exact hk) hdg (fun H1 locs1 h => kk H1 locs1 (xH_of h (mwp_put hm h0)))
end IR
def w5 (d : Nat) : Nat → Nat → Int32 := fun k j => if k = 1 ∧ j < d then 5 else 0
theorem w5_s (d : Nat) : setA (w5 d) 1 d 5 = w5 (d + 1) := by
  funext k j
  rw [setA_e]
  unfold w5
  by_cases h : k = 1
  · subst h
    by_cases hj : j = d
    · subst hj; simp
    · simp [hj, show j < d + 1 ↔ j < d by omega]
  · simp [h]
theorem mlive_in : ∀ k, k < 37 → mlive k = true → k ∈ [36, 35, 34, 33, 25, 24, 23, 22, 21, 20, 19, 18, 17, 15, 14, 13, 12, 11, 10, 9, 8, 7, 6, 5, 4, 2, 1, 0] := by decide
theorem mlive_lt {k : Nat} (h : mlive k = true) : k < 37 := by
  unfold mlive at h
  split at h <;> first | exact absurd h (by decide) | exact of_decide_eq_true h

set_option maxHeartbeats 1000000 in
set_option maxRecDepth 100000 in
/-- ResinWoodsModel(): 28 rows come, WARMTH is 5 -/
theorem c_X7_init (l : Launch) (G : XG) (A : Nat → Prop) (b : XW) (h : Nat) (hb0 : b h = none) : Met l yX7_init wsX7_init ({ frames := 1, cells := 27, slots := 22746, locals := 12 }) (va_Pc [.ref h] (xP G A (va_up b h (some (.inr (8, mdef)))))) (va_Qv (fun (u : (Nat → Option Nat) × (Nat → Nat)) => mA u.1 u.2 ∧ u.2 0 = h ∧ (∀ a k, u.1 a = some k → b a = none)) (fun u t => xB G A (mw G u.1 u.2 b (fun _ => 0) (w5 3650)) t) A) 27 22746 A := by
  refine Met.ofW (cc := cX7_init) (maxL := 2) (ret := none) (by decide) rfl ?_
  intro p e s m args below meth c s₁ B hml hv
  obtain ⟨rfl, hK, hH, hTt⟩ := hv
  have hx := B.exec
  have hb := B.bytes
  have hr := B.returns
  have hts := atoms_spec (ws := wsX7_init) B.pre
  have hown : s.vm.findClass RX7 = some m.cls := findClass_of_methodNamed B.named
  have hlocks := B.notSynchronized
  have hin : meth.name = "<init>" := (name_of_methodNamed B.named B.method).1
  have hiX7 : ∀ w ∈ wsX70, w ∈ wsX7_init := by decide +kernel
  have hf9 := hts (.fieldLink RX7 9 "ResinWoodsModel" "warmth" "[I") (by decide +kernel)
  have hf13 := hts (.fieldLink RX7 13 "ResinWoodsModel" "rain" "[I") (by decide +kernel)
  have hf16 := hts (.fieldLink RX7 16 "ResinWoodsModel" "wood" "[I") (by decide +kernel)
  have hf19 := hts (.fieldLink RX7 19 "ResinWoodsModel" "placeX" "[I") (by decide +kernel)
  have hf22 := hts (.fieldLink RX7 22 "ResinWoodsModel" "placeY" "[I") (by decide +kernel)
  have hf25 := hts (.fieldLink RX7 25 "ResinWoodsModel" "girth" "[I") (by decide +kernel)
  have hf28 := hts (.fieldLink RX7 28 "ResinWoodsModel" "isBurnt" "[Z") (by decide +kernel)
  have hf32 := hts (.fieldLink RX7 32 "ResinWoodsModel" "opened" "[I") (by decide +kernel)
  have hf35 := hts (.fieldLink RX7 35 "ResinWoodsModel" "years" "[I") (by decide +kernel)
  have hf38 := hts (.fieldLink RX7 38 "ResinWoodsModel" "streaks" "[I") (by decide +kernel)
  have hf41 := hts (.fieldLink RX7 41 "ResinWoodsModel" "latest" "[I") (by decide +kernel)
  have hf44 := hts (.fieldLink RX7 44 "ResinWoodsModel" "openYear" "[I") (by decide +kernel)
  have hf47 := hts (.fieldLink RX7 47 "ResinWoodsModel" "cups" "[I") (by decide +kernel)
  have hf50 := hts (.fieldLink RX7 50 "ResinWoodsModel" "overOf" "[I") (by decide +kernel)
  have hf53 := hts (.fieldLink RX7 53 "ResinWoodsModel" "barrelWood" "[I") (by decide +kernel)
  have hf56 := hts (.fieldLink RX7 56 "ResinWoodsModel" "barrelHas" "[I") (by decide +kernel)
  have hf59 := hts (.fieldLink RX7 59 "ResinWoodsModel" "barrelFrom" "[I") (by decide +kernel)
  have hf62 := hts (.fieldLink RX7 62 "ResinWoodsModel" "isStilled" "[Z") (by decide +kernel)
  have hf65 := hts (.fieldLink RX7 65 "ResinWoodsModel" "isPaid" "[Z") (by decide +kernel)
  have hf68 := hts (.fieldLink RX7 68 "ResinWoodsModel" "isLet" "[Z") (by decide +kernel)
  have hf71 := hts (.fieldLink RX7 71 "ResinWoodsModel" "rent" "[I") (by decide +kernel)
  have hf74 := hts (.fieldLink RX7 74 "ResinWoodsModel" "taken" "[I") (by decide +kernel)
  have hf77 := hts (.fieldLink RX7 77 "ResinWoodsModel" "paid" "[I") (by decide +kernel)
  have hf80 := hts (.fieldLink RX7 80 "ResinWoodsModel" "chosen" "[I") (by decide +kernel)
  have hf83 := hts (.fieldLink RX7 83 "ResinWoodsModel" "runsOver" "[I") (by decide +kernel)
  have hf86 := hts (.fieldLink RX7 86 "ResinWoodsModel" "order" "[I") (by decide +kernel)
  have hf89 := hts (.fieldLink RX7 89 "ResinWoodsModel" "best" "[I") (by decide +kernel)
  have haI := hts (.arrayClass .int) (by decide +kernel)
  have haZ := hts (.arrayClass .boolean) (by decide +kernel)
  have hl := lv_entry ([.ref h]) (n := 2) (Nat.le_of_ble_eq_true rfl)
  rw [lg_entry_eq]
  generalize (lg_sl ([.ref h]) ++ List.replicate (2 - (lg_sl ([.ref h])).length) Slot.unset).toArray = ls at hl ⊢
  have hl : lv_has ls 2 [(0, .ref h)] := hl
  have hm : mPb b [0] (va_up (fun _ => none) h (some 0)) (fun _ => h) := ⟨fun k hk => by rw [List.mem_singleton.mp hk]; exact if_pos rfl, fun a k hk => by by_cases e : a = h; (rw [e] at hk ⊢; rw [show va_up (fun _ => none) h (some 0) h = some 0 from if_pos rfl] at hk; cases hk; exact ⟨List.mem_singleton.mpr rfl, rfl, hb0⟩); (rw [show va_up (fun _ => none) h (some 0) a = none from if_neg e] at hk; cases hk)⟩
  have hH : xH G A s.heap s.heap [] (mwp G (va_up (fun _ => none) h (some 0)) b mdef) := xH_of hH (by funext a; by_cases e : a = h; (rw [e]; simp [va_up, mwp]); (simp [va_up, mwp, e]))
  refine lv_aload_n hx hb dX7_init_0 rfl (lv_at hl 0 rfl) ?_
  refine W.objInit hx hb hown (hts (.methodLink RX7 1 objectInit) (by decide +kernel)) (hts (.instanceMethod objectInit) (by decide +kernel)) (hts (.code objectInit ⟨#[0xb1]⟩ 1 none) (by decide +kernel)) rfl (by rw [hml]; exact hl.1) rfl dX7_init_1 (Nat.le_of_ble_eq_true rfl) (Nat.le_of_ble_eq_true rfl) ?_
  refine W.eq (g2 := F0 m 4 ls []) rfl ?_
  refine lv_aload_n hx hb dX7_init_4 rfl (lv_at hl 0 rfl) ?_
  refine lv_sipush (v := 3650) hx hb dX7_init_5 (by decide) ?_
  refine I_new (n := 3650) (z := 0) hx hb hK hm hH 1 (by decide) (Or.inl ⟨rfl, rfl, rfl⟩) haI rfl (by decide) (Nat.le_of_ble_eq_true rfl) (Nat.le_of_ble_eq_true rfl) dX7_init_8 (fun q1 H hm hH => ?_)
  refine I_put (ty := .int) hx hb hts hiX7 hown hK hm (by decide) (o := h) rfl hH 1 (by decide) hf9 rfl hin (by decide +kernel) rfl rfl dX7_init_10 (fun H locs hH => ?_)
  have hH : xH G A s.heap H locs (mwp G (va_up (va_up (fun _ => none) h (some 0)) q1 (some 1)) b [.int 0, .ref q1, .null, .int 0, .null, .null, .null, .null, .null, .null, .null, .null, .null, .null, .null, .null, .int 0, .null, .null, .null, .null, .null, .null, .null, .null, .null, .int 0, .int 0, .int 0, .int 0, .int 0, .int 0, .int 0, .null, .null, .null, .null, .int 0, .int 0]) := hH
  refine lv_aload_n hx hb dX7_init_13 rfl (lv_at hl 0 rfl) ?_
  refine lv_sipush (v := 3650) hx hb dX7_init_14 (by decide) ?_
  refine I_new (n := 3650) (z := 0) hx hb hK hm hH 2 (by decide) (Or.inl ⟨rfl, rfl, rfl⟩) haI rfl (by decide) (Nat.le_of_ble_eq_true rfl) (Nat.le_of_ble_eq_true rfl) dX7_init_17 (fun q2 H hm hH => ?_)
  refine I_put (ty := .int) hx hb hts hiX7 hown hK hm (by decide) (o := h) rfl hH 2 (by decide) hf13 rfl hin (by decide +kernel) rfl rfl dX7_init_19 (fun H locs hH => ?_)
  have hH : xH G A s.heap H locs (mwp G (va_up (va_up (va_up (fun _ => none) h (some 0)) q1 (some 1)) q2 (some 2)) b [.int 0, .ref q1, .ref q2, .int 0, .null, .null, .null, .null, .null, .null, .null, .null, .null, .null, .null, .null, .int 0, .null, .null, .null, .null, .null, .null, .null, .null, .null, .int 0, .int 0, .int 0, .int 0, .int 0, .int 0, .int 0, .null, .null, .null, .null, .int 0, .int 0]) := hH
  refine lv_aload_n hx hb dX7_init_22 rfl (lv_at hl 0 rfl) ?_
  refine lv_bipush (v := 60) hx hb dX7_init_23 (by decide) ?_
  refine I_new (n := 60) (z := 0) hx hb hK hm hH 4 (by decide) (Or.inl ⟨rfl, rfl, rfl⟩) haI rfl (by decide) (Nat.le_of_ble_eq_true rfl) (Nat.le_of_ble_eq_true rfl) dX7_init_25 (fun q4 H hm hH => ?_)
  refine I_put (ty := .int) hx hb hts hiX7 hown hK hm (by decide) (o := h) rfl hH 4 (by decide) hf16 rfl hin (by decide +kernel) rfl rfl dX7_init_27 (fun H locs hH => ?_)
  have hH : xH G A s.heap H locs (mwp G (va_up (va_up (va_up (va_up (fun _ => none) h (some 0)) q1 (some 1)) q2 (some 2)) q4 (some 4)) b [.int 0, .ref q1, .ref q2, .int 0, .ref q4, .null, .null, .null, .null, .null, .null, .null, .null, .null, .null, .null, .int 0, .null, .null, .null, .null, .null, .null, .null, .null, .null, .int 0, .int 0, .int 0, .int 0, .int 0, .int 0, .int 0, .null, .null, .null, .null, .int 0, .int 0]) := hH
  refine lv_aload_n hx hb dX7_init_30 rfl (lv_at hl 0 rfl) ?_
  refine lv_bipush (v := 60) hx hb dX7_init_31 (by decide) ?_
  refine I_new (n := 60) (z := 0) hx hb hK hm hH 5 (by decide) (Or.inl ⟨rfl, rfl, rfl⟩) haI rfl (by decide) (Nat.le_of_ble_eq_true rfl) (Nat.le_of_ble_eq_true rfl) dX7_init_33 (fun q5 H hm hH => ?_)
  refine I_put (ty := .int) hx hb hts hiX7 hown hK hm (by decide) (o := h) rfl hH 5 (by decide) hf19 rfl hin (by decide +kernel) rfl rfl dX7_init_35 (fun H locs hH => ?_)
  have hH : xH G A s.heap H locs (mwp G (va_up (va_up (va_up (va_up (va_up (fun _ => none) h (some 0)) q1 (some 1)) q2 (some 2)) q4 (some 4)) q5 (some 5)) b [.int 0, .ref q1, .ref q2, .int 0, .ref q4, .ref q5, .null, .null, .null, .null, .null, .null, .null, .null, .null, .null, .int 0, .null, .null, .null, .null, .null, .null, .null, .null, .null, .int 0, .int 0, .int 0, .int 0, .int 0, .int 0, .int 0, .null, .null, .null, .null, .int 0, .int 0]) := hH
  refine lv_aload_n hx hb dX7_init_38 rfl (lv_at hl 0 rfl) ?_
  refine lv_bipush (v := 60) hx hb dX7_init_39 (by decide) ?_
  refine I_new (n := 60) (z := 0) hx hb hK hm hH 6 (by decide) (Or.inl ⟨rfl, rfl, rfl⟩) haI rfl (by decide) (Nat.le_of_ble_eq_true rfl) (Nat.le_of_ble_eq_true rfl) dX7_init_41 (fun q6 H hm hH => ?_)
  refine I_put (ty := .int) hx hb hts hiX7 hown hK hm (by decide) (o := h) rfl hH 6 (by decide) hf22 rfl hin (by decide +kernel) rfl rfl dX7_init_43 (fun H locs hH => ?_)
  have hH : xH G A s.heap H locs (mwp G (va_up (va_up (va_up (va_up (va_up (va_up (fun _ => none) h (some 0)) q1 (some 1)) q2 (some 2)) q4 (some 4)) q5 (some 5)) q6 (some 6)) b [.int 0, .ref q1, .ref q2, .int 0, .ref q4, .ref q5, .ref q6, .null, .null, .null, .null, .null, .null, .null, .null, .null, .int 0, .null, .null, .null, .null, .null, .null, .null, .null, .null, .int 0, .int 0, .int 0, .int 0, .int 0, .int 0, .int 0, .null, .null, .null, .null, .int 0, .int 0]) := hH
  refine lv_aload_n hx hb dX7_init_46 rfl (lv_at hl 0 rfl) ?_
  refine lv_bipush (v := 60) hx hb dX7_init_47 (by decide) ?_
  refine I_new (n := 60) (z := 0) hx hb hK hm hH 7 (by decide) (Or.inl ⟨rfl, rfl, rfl⟩) haI rfl (by decide) (Nat.le_of_ble_eq_true rfl) (Nat.le_of_ble_eq_true rfl) dX7_init_49 (fun q7 H hm hH => ?_)
  refine I_put (ty := .int) hx hb hts hiX7 hown hK hm (by decide) (o := h) rfl hH 7 (by decide) hf25 rfl hin (by decide +kernel) rfl rfl dX7_init_51 (fun H locs hH => ?_)
  have hH : xH G A s.heap H locs (mwp G (va_up (va_up (va_up (va_up (va_up (va_up (va_up (fun _ => none) h (some 0)) q1 (some 1)) q2 (some 2)) q4 (some 4)) q5 (some 5)) q6 (some 6)) q7 (some 7)) b [.int 0, .ref q1, .ref q2, .int 0, .ref q4, .ref q5, .ref q6, .ref q7, .null, .null, .null, .null, .null, .null, .null, .null, .int 0, .null, .null, .null, .null, .null, .null, .null, .null, .null, .int 0, .int 0, .int 0, .int 0, .int 0, .int 0, .int 0, .null, .null, .null, .null, .int 0, .int 0]) := hH
  refine lv_aload_n hx hb dX7_init_54 rfl (lv_at hl 0 rfl) ?_
  refine lv_bipush (v := 60) hx hb dX7_init_55 (by decide) ?_
  refine I_new (n := 60) (z := 1) hx hb hK hm hH 8 (by decide) (Or.inr ⟨rfl, rfl, rfl⟩) haZ rfl (by decide) (Nat.le_of_ble_eq_true rfl) (Nat.le_of_ble_eq_true rfl) dX7_init_57 (fun q8 H hm hH => ?_)
  refine I_put (ty := .boolean) hx hb hts hiX7 hown hK hm (by decide) (o := h) rfl hH 8 (by decide) hf28 rfl hin (by decide +kernel) rfl rfl dX7_init_59 (fun H locs hH => ?_)
  have hH : xH G A s.heap H locs (mwp G (va_up (va_up (va_up (va_up (va_up (va_up (va_up (va_up (fun _ => none) h (some 0)) q1 (some 1)) q2 (some 2)) q4 (some 4)) q5 (some 5)) q6 (some 6)) q7 (some 7)) q8 (some 8)) b [.int 0, .ref q1, .ref q2, .int 0, .ref q4, .ref q5, .ref q6, .ref q7, .ref q8, .null, .null, .null, .null, .null, .null, .null, .int 0, .null, .null, .null, .null, .null, .null, .null, .null, .null, .int 0, .int 0, .int 0, .int 0, .int 0, .int 0, .int 0, .null, .null, .null, .null, .int 0, .int 0]) := hH
  refine lv_aload_n hx hb dX7_init_62 rfl (lv_at hl 0 rfl) ?_
  refine lv_bipush (v := 60) hx hb dX7_init_63 (by decide) ?_
  refine I_new (n := 60) (z := 0) hx hb hK hm hH 9 (by decide) (Or.inl ⟨rfl, rfl, rfl⟩) haI rfl (by decide) (Nat.le_of_ble_eq_true rfl) (Nat.le_of_ble_eq_true rfl) dX7_init_65 (fun q9 H hm hH => ?_)
  refine I_put (ty := .int) hx hb hts hiX7 hown hK hm (by decide) (o := h) rfl hH 9 (by decide) hf32 rfl hin (by decide +kernel) rfl rfl dX7_init_67 (fun H locs hH => ?_)
  have hH : xH G A s.heap H locs (mwp G (va_up (va_up (va_up (va_up (va_up (va_up (va_up (va_up (va_up (fun _ => none) h (some 0)) q1 (some 1)) q2 (some 2)) q4 (some 4)) q5 (some 5)) q6 (some 6)) q7 (some 7)) q8 (some 8)) q9 (some 9)) b [.int 0, .ref q1, .ref q2, .int 0, .ref q4, .ref q5, .ref q6, .ref q7, .ref q8, .ref q9, .null, .null, .null, .null, .null, .null, .int 0, .null, .null, .null, .null, .null, .null, .null, .null, .null, .int 0, .int 0, .int 0, .int 0, .int 0, .int 0, .int 0, .null, .null, .null, .null, .int 0, .int 0]) := hH
  refine lv_aload_n hx hb dX7_init_70 rfl (lv_at hl 0 rfl) ?_
  refine lv_bipush (v := 60) hx hb dX7_init_71 (by decide) ?_
  refine I_new (n := 60) (z := 0) hx hb hK hm hH 10 (by decide) (Or.inl ⟨rfl, rfl, rfl⟩) haI rfl (by decide) (Nat.le_of_ble_eq_true rfl) (Nat.le_of_ble_eq_true rfl) dX7_init_73 (fun q10 H hm hH => ?_)
  refine I_put (ty := .int) hx hb hts hiX7 hown hK hm (by decide) (o := h) rfl hH 10 (by decide) hf35 rfl hin (by decide +kernel) rfl rfl dX7_init_75 (fun H locs hH => ?_)
  have hH : xH G A s.heap H locs (mwp G (va_up (va_up (va_up (va_up (va_up (va_up (va_up (va_up (va_up (va_up (fun _ => none) h (some 0)) q1 (some 1)) q2 (some 2)) q4 (some 4)) q5 (some 5)) q6 (some 6)) q7 (some 7)) q8 (some 8)) q9 (some 9)) q10 (some 10)) b [.int 0, .ref q1, .ref q2, .int 0, .ref q4, .ref q5, .ref q6, .ref q7, .ref q8, .ref q9, .ref q10, .null, .null, .null, .null, .null, .int 0, .null, .null, .null, .null, .null, .null, .null, .null, .null, .int 0, .int 0, .int 0, .int 0, .int 0, .int 0, .int 0, .null, .null, .null, .null, .int 0, .int 0]) := hH
  refine lv_aload_n hx hb dX7_init_78 rfl (lv_at hl 0 rfl) ?_
  refine lv_sipush (v := 180) hx hb dX7_init_79 (by decide) ?_
  refine I_new (n := 180) (z := 0) hx hb hK hm hH 11 (by decide) (Or.inl ⟨rfl, rfl, rfl⟩) haI rfl (by decide) (Nat.le_of_ble_eq_true rfl) (Nat.le_of_ble_eq_true rfl) dX7_init_82 (fun q11 H hm hH => ?_)
  refine I_put (ty := .int) hx hb hts hiX7 hown hK hm (by decide) (o := h) rfl hH 11 (by decide) hf38 rfl hin (by decide +kernel) rfl rfl dX7_init_84 (fun H locs hH => ?_)
  have hH : xH G A s.heap H locs (mwp G (va_up (va_up (va_up (va_up (va_up (va_up (va_up (va_up (va_up (va_up (va_up (fun _ => none) h (some 0)) q1 (some 1)) q2 (some 2)) q4 (some 4)) q5 (some 5)) q6 (some 6)) q7 (some 7)) q8 (some 8)) q9 (some 9)) q10 (some 10)) q11 (some 11)) b [.int 0, .ref q1, .ref q2, .int 0, .ref q4, .ref q5, .ref q6, .ref q7, .ref q8, .ref q9, .ref q10, .ref q11, .null, .null, .null, .null, .int 0, .null, .null, .null, .null, .null, .null, .null, .null, .null, .int 0, .int 0, .int 0, .int 0, .int 0, .int 0, .int 0, .null, .null, .null, .null, .int 0, .int 0]) := hH
  refine lv_aload_n hx hb dX7_init_87 rfl (lv_at hl 0 rfl) ?_
  refine lv_sipush (v := 180) hx hb dX7_init_88 (by decide) ?_
  refine I_new (n := 180) (z := 0) hx hb hK hm hH 12 (by decide) (Or.inl ⟨rfl, rfl, rfl⟩) haI rfl (by decide) (Nat.le_of_ble_eq_true rfl) (Nat.le_of_ble_eq_true rfl) dX7_init_91 (fun q12 H hm hH => ?_)
  refine I_put (ty := .int) hx hb hts hiX7 hown hK hm (by decide) (o := h) rfl hH 12 (by decide) hf41 rfl hin (by decide +kernel) rfl rfl dX7_init_93 (fun H locs hH => ?_)
  have hH : xH G A s.heap H locs (mwp G (va_up (va_up (va_up (va_up (va_up (va_up (va_up (va_up (va_up (va_up (va_up (va_up (fun _ => none) h (some 0)) q1 (some 1)) q2 (some 2)) q4 (some 4)) q5 (some 5)) q6 (some 6)) q7 (some 7)) q8 (some 8)) q9 (some 9)) q10 (some 10)) q11 (some 11)) q12 (some 12)) b [.int 0, .ref q1, .ref q2, .int 0, .ref q4, .ref q5, .ref q6, .ref q7, .ref q8, .ref q9, .ref q10, .ref q11, .ref q12, .null, .null, .null, .int 0, .null, .null, .null, .null, .null, .null, .null, .null, .null, .int 0, .int 0, .int 0, .int 0, .int 0, .int 0, .int 0, .null, .null, .null, .null, .int 0, .int 0]) := hH
  refine lv_aload_n hx hb dX7_init_96 rfl (lv_at hl 0 rfl) ?_
  refine lv_sipush (v := 180) hx hb dX7_init_97 (by decide) ?_
  refine I_new (n := 180) (z := 0) hx hb hK hm hH 13 (by decide) (Or.inl ⟨rfl, rfl, rfl⟩) haI rfl (by decide) (Nat.le_of_ble_eq_true rfl) (Nat.le_of_ble_eq_true rfl) dX7_init_100 (fun q13 H hm hH => ?_)
  refine I_put (ty := .int) hx hb hts hiX7 hown hK hm (by decide) (o := h) rfl hH 13 (by decide) hf44 rfl hin (by decide +kernel) rfl rfl dX7_init_102 (fun H locs hH => ?_)
  have hH : xH G A s.heap H locs (mwp G (va_up (va_up (va_up (va_up (va_up (va_up (va_up (va_up (va_up (va_up (va_up (va_up (va_up (fun _ => none) h (some 0)) q1 (some 1)) q2 (some 2)) q4 (some 4)) q5 (some 5)) q6 (some 6)) q7 (some 7)) q8 (some 8)) q9 (some 9)) q10 (some 10)) q11 (some 11)) q12 (some 12)) q13 (some 13)) b [.int 0, .ref q1, .ref q2, .int 0, .ref q4, .ref q5, .ref q6, .ref q7, .ref q8, .ref q9, .ref q10, .ref q11, .ref q12, .ref q13, .null, .null, .int 0, .null, .null, .null, .null, .null, .null, .null, .null, .null, .int 0, .int 0, .int 0, .int 0, .int 0, .int 0, .int 0, .null, .null, .null, .null, .int 0, .int 0]) := hH
  refine lv_aload_n hx hb dX7_init_105 rfl (lv_at hl 0 rfl) ?_
  refine lv_sipush (v := 720) hx hb dX7_init_106 (by decide) ?_
  refine I_new (n := 720) (z := 0) hx hb hK hm hH 14 (by decide) (Or.inl ⟨rfl, rfl, rfl⟩) haI rfl (by decide) (Nat.le_of_ble_eq_true rfl) (Nat.le_of_ble_eq_true rfl) dX7_init_109 (fun q14 H hm hH => ?_)
  refine I_put (ty := .int) hx hb hts hiX7 hown hK hm (by decide) (o := h) rfl hH 14 (by decide) hf47 rfl hin (by decide +kernel) rfl rfl dX7_init_111 (fun H locs hH => ?_)
  have hH : xH G A s.heap H locs (mwp G (va_up (va_up (va_up (va_up (va_up (va_up (va_up (va_up (va_up (va_up (va_up (va_up (va_up (va_up (fun _ => none) h (some 0)) q1 (some 1)) q2 (some 2)) q4 (some 4)) q5 (some 5)) q6 (some 6)) q7 (some 7)) q8 (some 8)) q9 (some 9)) q10 (some 10)) q11 (some 11)) q12 (some 12)) q13 (some 13)) q14 (some 14)) b [.int 0, .ref q1, .ref q2, .int 0, .ref q4, .ref q5, .ref q6, .ref q7, .ref q8, .ref q9, .ref q10, .ref q11, .ref q12, .ref q13, .ref q14, .null, .int 0, .null, .null, .null, .null, .null, .null, .null, .null, .null, .int 0, .int 0, .int 0, .int 0, .int 0, .int 0, .int 0, .null, .null, .null, .null, .int 0, .int 0]) := hH
  refine lv_aload_n hx hb dX7_init_114 rfl (lv_at hl 0 rfl) ?_
  refine lv_sipush (v := 180) hx hb dX7_init_115 (by decide) ?_
  refine I_new (n := 180) (z := 0) hx hb hK hm hH 15 (by decide) (Or.inl ⟨rfl, rfl, rfl⟩) haI rfl (by decide) (Nat.le_of_ble_eq_true rfl) (Nat.le_of_ble_eq_true rfl) dX7_init_118 (fun q15 H hm hH => ?_)
  refine I_put (ty := .int) hx hb hts hiX7 hown hK hm (by decide) (o := h) rfl hH 15 (by decide) hf50 rfl hin (by decide +kernel) rfl rfl dX7_init_120 (fun H locs hH => ?_)
  have hH : xH G A s.heap H locs (mwp G (va_up (va_up (va_up (va_up (va_up (va_up (va_up (va_up (va_up (va_up (va_up (va_up (va_up (va_up (va_up (fun _ => none) h (some 0)) q1 (some 1)) q2 (some 2)) q4 (some 4)) q5 (some 5)) q6 (some 6)) q7 (some 7)) q8 (some 8)) q9 (some 9)) q10 (some 10)) q11 (some 11)) q12 (some 12)) q13 (some 13)) q14 (some 14)) q15 (some 15)) b [.int 0, .ref q1, .ref q2, .int 0, .ref q4, .ref q5, .ref q6, .ref q7, .ref q8, .ref q9, .ref q10, .ref q11, .ref q12, .ref q13, .ref q14, .ref q15, .int 0, .null, .null, .null, .null, .null, .null, .null, .null, .null, .int 0, .int 0, .int 0, .int 0, .int 0, .int 0, .int 0, .null, .null, .null, .null, .int 0, .int 0]) := hH
  refine lv_aload_n hx hb dX7_init_123 rfl (lv_at hl 0 rfl) ?_
  refine lv_sipush (v := 200) hx hb dX7_init_124 (by decide) ?_
  refine I_new (n := 200) (z := 0) hx hb hK hm hH 17 (by decide) (Or.inl ⟨rfl, rfl, rfl⟩) haI rfl (by decide) (Nat.le_of_ble_eq_true rfl) (Nat.le_of_ble_eq_true rfl) dX7_init_127 (fun q17 H hm hH => ?_)
  refine I_put (ty := .int) hx hb hts hiX7 hown hK hm (by decide) (o := h) rfl hH 17 (by decide) hf53 rfl hin (by decide +kernel) rfl rfl dX7_init_129 (fun H locs hH => ?_)
  have hH : xH G A s.heap H locs (mwp G (va_up (va_up (va_up (va_up (va_up (va_up (va_up (va_up (va_up (va_up (va_up (va_up (va_up (va_up (va_up (va_up (fun _ => none) h (some 0)) q1 (some 1)) q2 (some 2)) q4 (some 4)) q5 (some 5)) q6 (some 6)) q7 (some 7)) q8 (some 8)) q9 (some 9)) q10 (some 10)) q11 (some 11)) q12 (some 12)) q13 (some 13)) q14 (some 14)) q15 (some 15)) q17 (some 17)) b [.int 0, .ref q1, .ref q2, .int 0, .ref q4, .ref q5, .ref q6, .ref q7, .ref q8, .ref q9, .ref q10, .ref q11, .ref q12, .ref q13, .ref q14, .ref q15, .int 0, .ref q17, .null, .null, .null, .null, .null, .null, .null, .null, .int 0, .int 0, .int 0, .int 0, .int 0, .int 0, .int 0, .null, .null, .null, .null, .int 0, .int 0]) := hH
  refine lv_aload_n hx hb dX7_init_132 rfl (lv_at hl 0 rfl) ?_
  refine lv_sipush (v := 800) hx hb dX7_init_133 (by decide) ?_
  refine I_new (n := 800) (z := 0) hx hb hK hm hH 18 (by decide) (Or.inl ⟨rfl, rfl, rfl⟩) haI rfl (by decide) (Nat.le_of_ble_eq_true rfl) (Nat.le_of_ble_eq_true rfl) dX7_init_136 (fun q18 H hm hH => ?_)
  refine I_put (ty := .int) hx hb hts hiX7 hown hK hm (by decide) (o := h) rfl hH 18 (by decide) hf56 rfl hin (by decide +kernel) rfl rfl dX7_init_138 (fun H locs hH => ?_)
  have hH : xH G A s.heap H locs (mwp G (va_up (va_up (va_up (va_up (va_up (va_up (va_up (va_up (va_up (va_up (va_up (va_up (va_up (va_up (va_up (va_up (va_up (fun _ => none) h (some 0)) q1 (some 1)) q2 (some 2)) q4 (some 4)) q5 (some 5)) q6 (some 6)) q7 (some 7)) q8 (some 8)) q9 (some 9)) q10 (some 10)) q11 (some 11)) q12 (some 12)) q13 (some 13)) q14 (some 14)) q15 (some 15)) q17 (some 17)) q18 (some 18)) b [.int 0, .ref q1, .ref q2, .int 0, .ref q4, .ref q5, .ref q6, .ref q7, .ref q8, .ref q9, .ref q10, .ref q11, .ref q12, .ref q13, .ref q14, .ref q15, .int 0, .ref q17, .ref q18, .null, .null, .null, .null, .null, .null, .null, .int 0, .int 0, .int 0, .int 0, .int 0, .int 0, .int 0, .null, .null, .null, .null, .int 0, .int 0]) := hH
  refine lv_aload_n hx hb dX7_init_141 rfl (lv_at hl 0 rfl) ?_
  refine lv_sipush (v := 12000) hx hb dX7_init_142 (by decide) ?_
  refine I_new (n := 12000) (z := 0) hx hb hK hm hH 19 (by decide) (Or.inl ⟨rfl, rfl, rfl⟩) haI rfl (by decide) (Nat.le_of_ble_eq_true rfl) (Nat.le_of_ble_eq_true rfl) dX7_init_145 (fun q19 H hm hH => ?_)
  refine I_put (ty := .int) hx hb hts hiX7 hown hK hm (by decide) (o := h) rfl hH 19 (by decide) hf59 rfl hin (by decide +kernel) rfl rfl dX7_init_147 (fun H locs hH => ?_)
  have hH : xH G A s.heap H locs (mwp G (va_up (va_up (va_up (va_up (va_up (va_up (va_up (va_up (va_up (va_up (va_up (va_up (va_up (va_up (va_up (va_up (va_up (va_up (fun _ => none) h (some 0)) q1 (some 1)) q2 (some 2)) q4 (some 4)) q5 (some 5)) q6 (some 6)) q7 (some 7)) q8 (some 8)) q9 (some 9)) q10 (some 10)) q11 (some 11)) q12 (some 12)) q13 (some 13)) q14 (some 14)) q15 (some 15)) q17 (some 17)) q18 (some 18)) q19 (some 19)) b [.int 0, .ref q1, .ref q2, .int 0, .ref q4, .ref q5, .ref q6, .ref q7, .ref q8, .ref q9, .ref q10, .ref q11, .ref q12, .ref q13, .ref q14, .ref q15, .int 0, .ref q17, .ref q18, .ref q19, .null, .null, .null, .null, .null, .null, .int 0, .int 0, .int 0, .int 0, .int 0, .int 0, .int 0, .null, .null, .null, .null, .int 0, .int 0]) := hH
  refine lv_aload_n hx hb dX7_init_150 rfl (lv_at hl 0 rfl) ?_
  refine lv_sipush (v := 200) hx hb dX7_init_151 (by decide) ?_
  refine I_new (n := 200) (z := 1) hx hb hK hm hH 20 (by decide) (Or.inr ⟨rfl, rfl, rfl⟩) haZ rfl (by decide) (Nat.le_of_ble_eq_true rfl) (Nat.le_of_ble_eq_true rfl) dX7_init_154 (fun q20 H hm hH => ?_)
  refine I_put (ty := .boolean) hx hb hts hiX7 hown hK hm (by decide) (o := h) rfl hH 20 (by decide) hf62 rfl hin (by decide +kernel) rfl rfl dX7_init_156 (fun H locs hH => ?_)
  have hH : xH G A s.heap H locs (mwp G (va_up (va_up (va_up (va_up (va_up (va_up (va_up (va_up (va_up (va_up (va_up (va_up (va_up (va_up (va_up (va_up (va_up (va_up (va_up (fun _ => none) h (some 0)) q1 (some 1)) q2 (some 2)) q4 (some 4)) q5 (some 5)) q6 (some 6)) q7 (some 7)) q8 (some 8)) q9 (some 9)) q10 (some 10)) q11 (some 11)) q12 (some 12)) q13 (some 13)) q14 (some 14)) q15 (some 15)) q17 (some 17)) q18 (some 18)) q19 (some 19)) q20 (some 20)) b [.int 0, .ref q1, .ref q2, .int 0, .ref q4, .ref q5, .ref q6, .ref q7, .ref q8, .ref q9, .ref q10, .ref q11, .ref q12, .ref q13, .ref q14, .ref q15, .int 0, .ref q17, .ref q18, .ref q19, .ref q20, .null, .null, .null, .null, .null, .int 0, .int 0, .int 0, .int 0, .int 0, .int 0, .int 0, .null, .null, .null, .null, .int 0, .int 0]) := hH
  refine lv_aload_n hx hb dX7_init_159 rfl (lv_at hl 0 rfl) ?_
  refine lv_sipush (v := 200) hx hb dX7_init_160 (by decide) ?_
  refine I_new (n := 200) (z := 1) hx hb hK hm hH 21 (by decide) (Or.inr ⟨rfl, rfl, rfl⟩) haZ rfl (by decide) (Nat.le_of_ble_eq_true rfl) (Nat.le_of_ble_eq_true rfl) dX7_init_163 (fun q21 H hm hH => ?_)
  refine I_put (ty := .boolean) hx hb hts hiX7 hown hK hm (by decide) (o := h) rfl hH 21 (by decide) hf65 rfl hin (by decide +kernel) rfl rfl dX7_init_165 (fun H locs hH => ?_)
  have hH : xH G A s.heap H locs (mwp G (va_up (va_up (va_up (va_up (va_up (va_up (va_up (va_up (va_up (va_up (va_up (va_up (va_up (va_up (va_up (va_up (va_up (va_up (va_up (va_up (fun _ => none) h (some 0)) q1 (some 1)) q2 (some 2)) q4 (some 4)) q5 (some 5)) q6 (some 6)) q7 (some 7)) q8 (some 8)) q9 (some 9)) q10 (some 10)) q11 (some 11)) q12 (some 12)) q13 (some 13)) q14 (some 14)) q15 (some 15)) q17 (some 17)) q18 (some 18)) q19 (some 19)) q20 (some 20)) q21 (some 21)) b [.int 0, .ref q1, .ref q2, .int 0, .ref q4, .ref q5, .ref q6, .ref q7, .ref q8, .ref q9, .ref q10, .ref q11, .ref q12, .ref q13, .ref q14, .ref q15, .int 0, .ref q17, .ref q18, .ref q19, .ref q20, .ref q21, .null, .null, .null, .null, .int 0, .int 0, .int 0, .int 0, .int 0, .int 0, .int 0, .null, .null, .null, .null, .int 0, .int 0]) := hH
  refine lv_aload_n hx hb dX7_init_168 rfl (lv_at hl 0 rfl) ?_
  refine lv_bipush (v := 6) hx hb dX7_init_169 (by decide) ?_
  refine I_new (n := 6) (z := 1) hx hb hK hm hH 22 (by decide) (Or.inr ⟨rfl, rfl, rfl⟩) haZ rfl (by decide) (Nat.le_of_ble_eq_true rfl) (Nat.le_of_ble_eq_true rfl) dX7_init_171 (fun q22 H hm hH => ?_)
  refine I_put (ty := .boolean) hx hb hts hiX7 hown hK hm (by decide) (o := h) rfl hH 22 (by decide) hf68 rfl hin (by decide +kernel) rfl rfl dX7_init_173 (fun H locs hH => ?_)
  have hH : xH G A s.heap H locs (mwp G (va_up (va_up (va_up (va_up (va_up (va_up (va_up (va_up (va_up (va_up (va_up (va_up (va_up (va_up (va_up (va_up (va_up (va_up (va_up (va_up (va_up (fun _ => none) h (some 0)) q1 (some 1)) q2 (some 2)) q4 (some 4)) q5 (some 5)) q6 (some 6)) q7 (some 7)) q8 (some 8)) q9 (some 9)) q10 (some 10)) q11 (some 11)) q12 (some 12)) q13 (some 13)) q14 (some 14)) q15 (some 15)) q17 (some 17)) q18 (some 18)) q19 (some 19)) q20 (some 20)) q21 (some 21)) q22 (some 22)) b [.int 0, .ref q1, .ref q2, .int 0, .ref q4, .ref q5, .ref q6, .ref q7, .ref q8, .ref q9, .ref q10, .ref q11, .ref q12, .ref q13, .ref q14, .ref q15, .int 0, .ref q17, .ref q18, .ref q19, .ref q20, .ref q21, .ref q22, .null, .null, .null, .int 0, .int 0, .int 0, .int 0, .int 0, .int 0, .int 0, .null, .null, .null, .null, .int 0, .int 0]) := hH
  refine lv_aload_n hx hb dX7_init_176 rfl (lv_at hl 0 rfl) ?_
  refine lv_bipush (v := 6) hx hb dX7_init_177 (by decide) ?_
  refine I_new (n := 6) (z := 0) hx hb hK hm hH 23 (by decide) (Or.inl ⟨rfl, rfl, rfl⟩) haI rfl (by decide) (Nat.le_of_ble_eq_true rfl) (Nat.le_of_ble_eq_true rfl) dX7_init_179 (fun q23 H hm hH => ?_)
  refine I_put (ty := .int) hx hb hts hiX7 hown hK hm (by decide) (o := h) rfl hH 23 (by decide) hf71 rfl hin (by decide +kernel) rfl rfl dX7_init_181 (fun H locs hH => ?_)
  have hH : xH G A s.heap H locs (mwp G (va_up (va_up (va_up (va_up (va_up (va_up (va_up (va_up (va_up (va_up (va_up (va_up (va_up (va_up (va_up (va_up (va_up (va_up (va_up (va_up (va_up (va_up (fun _ => none) h (some 0)) q1 (some 1)) q2 (some 2)) q4 (some 4)) q5 (some 5)) q6 (some 6)) q7 (some 7)) q8 (some 8)) q9 (some 9)) q10 (some 10)) q11 (some 11)) q12 (some 12)) q13 (some 13)) q14 (some 14)) q15 (some 15)) q17 (some 17)) q18 (some 18)) q19 (some 19)) q20 (some 20)) q21 (some 21)) q22 (some 22)) q23 (some 23)) b [.int 0, .ref q1, .ref q2, .int 0, .ref q4, .ref q5, .ref q6, .ref q7, .ref q8, .ref q9, .ref q10, .ref q11, .ref q12, .ref q13, .ref q14, .ref q15, .int 0, .ref q17, .ref q18, .ref q19, .ref q20, .ref q21, .ref q22, .ref q23, .null, .null, .int 0, .int 0, .int 0, .int 0, .int 0, .int 0, .int 0, .null, .null, .null, .null, .int 0, .int 0]) := hH
  refine lv_aload_n hx hb dX7_init_184 rfl (lv_at hl 0 rfl) ?_
  refine lv_bipush (v := 6) hx hb dX7_init_185 (by decide) ?_
  refine I_new (n := 6) (z := 0) hx hb hK hm hH 24 (by decide) (Or.inl ⟨rfl, rfl, rfl⟩) haI rfl (by decide) (Nat.le_of_ble_eq_true rfl) (Nat.le_of_ble_eq_true rfl) dX7_init_187 (fun q24 H hm hH => ?_)
  refine I_put (ty := .int) hx hb hts hiX7 hown hK hm (by decide) (o := h) rfl hH 24 (by decide) hf74 rfl hin (by decide +kernel) rfl rfl dX7_init_189 (fun H locs hH => ?_)
  have hH : xH G A s.heap H locs (mwp G (va_up (va_up (va_up (va_up (va_up (va_up (va_up (va_up (va_up (va_up (va_up (va_up (va_up (va_up (va_up (va_up (va_up (va_up (va_up (va_up (va_up (va_up (va_up (fun _ => none) h (some 0)) q1 (some 1)) q2 (some 2)) q4 (some 4)) q5 (some 5)) q6 (some 6)) q7 (some 7)) q8 (some 8)) q9 (some 9)) q10 (some 10)) q11 (some 11)) q12 (some 12)) q13 (some 13)) q14 (some 14)) q15 (some 15)) q17 (some 17)) q18 (some 18)) q19 (some 19)) q20 (some 20)) q21 (some 21)) q22 (some 22)) q23 (some 23)) q24 (some 24)) b [.int 0, .ref q1, .ref q2, .int 0, .ref q4, .ref q5, .ref q6, .ref q7, .ref q8, .ref q9, .ref q10, .ref q11, .ref q12, .ref q13, .ref q14, .ref q15, .int 0, .ref q17, .ref q18, .ref q19, .ref q20, .ref q21, .ref q22, .ref q23, .ref q24, .null, .int 0, .int 0, .int 0, .int 0, .int 0, .int 0, .int 0, .null, .null, .null, .null, .int 0, .int 0]) := hH
  refine lv_aload_n hx hb dX7_init_192 rfl (lv_at hl 0 rfl) ?_
  refine lv_bipush (v := 6) hx hb dX7_init_193 (by decide) ?_
  refine I_new (n := 6) (z := 0) hx hb hK hm hH 25 (by decide) (Or.inl ⟨rfl, rfl, rfl⟩) haI rfl (by decide) (Nat.le_of_ble_eq_true rfl) (Nat.le_of_ble_eq_true rfl) dX7_init_195 (fun q25 H hm hH => ?_)
  refine I_put (ty := .int) hx hb hts hiX7 hown hK hm (by decide) (o := h) rfl hH 25 (by decide) hf77 rfl hin (by decide +kernel) rfl rfl dX7_init_197 (fun H locs hH => ?_)
  have hH : xH G A s.heap H locs (mwp G (va_up (va_up (va_up (va_up (va_up (va_up (va_up (va_up (va_up (va_up (va_up (va_up (va_up (va_up (va_up (va_up (va_up (va_up (va_up (va_up (va_up (va_up (va_up (va_up (fun _ => none) h (some 0)) q1 (some 1)) q2 (some 2)) q4 (some 4)) q5 (some 5)) q6 (some 6)) q7 (some 7)) q8 (some 8)) q9 (some 9)) q10 (some 10)) q11 (some 11)) q12 (some 12)) q13 (some 13)) q14 (some 14)) q15 (some 15)) q17 (some 17)) q18 (some 18)) q19 (some 19)) q20 (some 20)) q21 (some 21)) q22 (some 22)) q23 (some 23)) q24 (some 24)) q25 (some 25)) b [.int 0, .ref q1, .ref q2, .int 0, .ref q4, .ref q5, .ref q6, .ref q7, .ref q8, .ref q9, .ref q10, .ref q11, .ref q12, .ref q13, .ref q14, .ref q15, .int 0, .ref q17, .ref q18, .ref q19, .ref q20, .ref q21, .ref q22, .ref q23, .ref q24, .ref q25, .int 0, .int 0, .int 0, .int 0, .int 0, .int 0, .int 0, .null, .null, .null, .null, .int 0, .int 0]) := hH
  refine lv_aload_n hx hb dX7_init_200 rfl (lv_at hl 0 rfl) ?_
  refine lv_bipush (v := 6) hx hb dX7_init_201 (by decide) ?_
  refine I_new (n := 6) (z := 0) hx hb hK hm hH 33 (by decide) (Or.inl ⟨rfl, rfl, rfl⟩) haI rfl (by decide) (Nat.le_of_ble_eq_true rfl) (Nat.le_of_ble_eq_true rfl) dX7_init_203 (fun q33 H hm hH => ?_)
  refine I_put (ty := .int) hx hb hts hiX7 hown hK hm (by decide) (o := h) rfl hH 33 (by decide) hf80 rfl hin (by decide +kernel) rfl rfl dX7_init_205 (fun H locs hH => ?_)
  have hH : xH G A s.heap H locs (mwp G (va_up (va_up (va_up (va_up (va_up (va_up (va_up (va_up (va_up (va_up (va_up (va_up (va_up (va_up (va_up (va_up (va_up (va_up (va_up (va_up (va_up (va_up (va_up (va_up (va_up (fun _ => none) h (some 0)) q1 (some 1)) q2 (some 2)) q4 (some 4)) q5 (some 5)) q6 (some 6)) q7 (some 7)) q8 (some 8)) q9 (some 9)) q10 (some 10)) q11 (some 11)) q12 (some 12)) q13 (some 13)) q14 (some 14)) q15 (some 15)) q17 (some 17)) q18 (some 18)) q19 (some 19)) q20 (some 20)) q21 (some 21)) q22 (some 22)) q23 (some 23)) q24 (some 24)) q25 (some 25)) q33 (some 33)) b [.int 0, .ref q1, .ref q2, .int 0, .ref q4, .ref q5, .ref q6, .ref q7, .ref q8, .ref q9, .ref q10, .ref q11, .ref q12, .ref q13, .ref q14, .ref q15, .int 0, .ref q17, .ref q18, .ref q19, .ref q20, .ref q21, .ref q22, .ref q23, .ref q24, .ref q25, .int 0, .int 0, .int 0, .int 0, .int 0, .int 0, .int 0, .ref q33, .null, .null, .null, .int 0, .int 0]) := hH
  refine lv_aload_n hx hb dX7_init_208 rfl (lv_at hl 0 rfl) ?_
  refine lv_sipush (v := 144) hx hb dX7_init_209 (by decide) ?_
  refine I_new (n := 144) (z := 0) hx hb hK hm hH 34 (by decide) (Or.inl ⟨rfl, rfl, rfl⟩) haI rfl (by decide) (Nat.le_of_ble_eq_true rfl) (Nat.le_of_ble_eq_true rfl) dX7_init_212 (fun q34 H hm hH => ?_)
  refine I_put (ty := .int) hx hb hts hiX7 hown hK hm (by decide) (o := h) rfl hH 34 (by decide) hf83 rfl hin (by decide +kernel) rfl rfl dX7_init_214 (fun H locs hH => ?_)
  have hH : xH G A s.heap H locs (mwp G (va_up (va_up (va_up (va_up (va_up (va_up (va_up (va_up (va_up (va_up (va_up (va_up (va_up (va_up (va_up (va_up (va_up (va_up (va_up (va_up (va_up (va_up (va_up (va_up (va_up (va_up (fun _ => none) h (some 0)) q1 (some 1)) q2 (some 2)) q4 (some 4)) q5 (some 5)) q6 (some 6)) q7 (some 7)) q8 (some 8)) q9 (some 9)) q10 (some 10)) q11 (some 11)) q12 (some 12)) q13 (some 13)) q14 (some 14)) q15 (some 15)) q17 (some 17)) q18 (some 18)) q19 (some 19)) q20 (some 20)) q21 (some 21)) q22 (some 22)) q23 (some 23)) q24 (some 24)) q25 (some 25)) q33 (some 33)) q34 (some 34)) b [.int 0, .ref q1, .ref q2, .int 0, .ref q4, .ref q5, .ref q6, .ref q7, .ref q8, .ref q9, .ref q10, .ref q11, .ref q12, .ref q13, .ref q14, .ref q15, .int 0, .ref q17, .ref q18, .ref q19, .ref q20, .ref q21, .ref q22, .ref q23, .ref q24, .ref q25, .int 0, .int 0, .int 0, .int 0, .int 0, .int 0, .int 0, .ref q33, .ref q34, .null, .null, .int 0, .int 0]) := hH
  refine lv_aload_n hx hb dX7_init_217 rfl (lv_at hl 0 rfl) ?_
  refine lv_bipush (v := 6) hx hb dX7_init_218 (by decide) ?_
  refine I_new (n := 6) (z := 0) hx hb hK hm hH 35 (by decide) (Or.inl ⟨rfl, rfl, rfl⟩) haI rfl (by decide) (Nat.le_of_ble_eq_true rfl) (Nat.le_of_ble_eq_true rfl) dX7_init_220 (fun q35 H hm hH => ?_)
  refine I_put (ty := .int) hx hb hts hiX7 hown hK hm (by decide) (o := h) rfl hH 35 (by decide) hf86 rfl hin (by decide +kernel) rfl rfl dX7_init_222 (fun H locs hH => ?_)
  have hH : xH G A s.heap H locs (mwp G (va_up (va_up (va_up (va_up (va_up (va_up (va_up (va_up (va_up (va_up (va_up (va_up (va_up (va_up (va_up (va_up (va_up (va_up (va_up (va_up (va_up (va_up (va_up (va_up (va_up (va_up (va_up (fun _ => none) h (some 0)) q1 (some 1)) q2 (some 2)) q4 (some 4)) q5 (some 5)) q6 (some 6)) q7 (some 7)) q8 (some 8)) q9 (some 9)) q10 (some 10)) q11 (some 11)) q12 (some 12)) q13 (some 13)) q14 (some 14)) q15 (some 15)) q17 (some 17)) q18 (some 18)) q19 (some 19)) q20 (some 20)) q21 (some 21)) q22 (some 22)) q23 (some 23)) q24 (some 24)) q25 (some 25)) q33 (some 33)) q34 (some 34)) q35 (some 35)) b [.int 0, .ref q1, .ref q2, .int 0, .ref q4, .ref q5, .ref q6, .ref q7, .ref q8, .ref q9, .ref q10, .ref q11, .ref q12, .ref q13, .ref q14, .ref q15, .int 0, .ref q17, .ref q18, .ref q19, .ref q20, .ref q21, .ref q22, .ref q23, .ref q24, .ref q25, .int 0, .int 0, .int 0, .int 0, .int 0, .int 0, .int 0, .ref q33, .ref q34, .ref q35, .null, .int 0, .int 0]) := hH
  refine lv_aload_n hx hb dX7_init_225 rfl (lv_at hl 0 rfl) ?_
  refine lv_bipush (v := 6) hx hb dX7_init_226 (by decide) ?_
  refine I_new (n := 6) (z := 0) hx hb hK hm hH 36 (by decide) (Or.inl ⟨rfl, rfl, rfl⟩) haI rfl (by decide) (Nat.le_of_ble_eq_true rfl) (Nat.le_of_ble_eq_true rfl) dX7_init_228 (fun q36 H hm hH => ?_)
  refine I_put (ty := .int) hx hb hts hiX7 hown hK hm (by decide) (o := h) rfl hH 36 (by decide) hf89 rfl hin (by decide +kernel) rfl rfl dX7_init_230 (fun H locs hH => ?_)
  have hH : xH G A s.heap H locs (mwp G (va_up (va_up (va_up (va_up (va_up (va_up (va_up (va_up (va_up (va_up (va_up (va_up (va_up (va_up (va_up (va_up (va_up (va_up (va_up (va_up (va_up (va_up (va_up (va_up (va_up (va_up (va_up (va_up (fun _ => none) h (some 0)) q1 (some 1)) q2 (some 2)) q4 (some 4)) q5 (some 5)) q6 (some 6)) q7 (some 7)) q8 (some 8)) q9 (some 9)) q10 (some 10)) q11 (some 11)) q12 (some 12)) q13 (some 13)) q14 (some 14)) q15 (some 15)) q17 (some 17)) q18 (some 18)) q19 (some 19)) q20 (some 20)) q21 (some 21)) q22 (some 22)) q23 (some 23)) q24 (some 24)) q25 (some 25)) q33 (some 33)) q34 (some 34)) q35 (some 35)) q36 (some 36)) b [.int 0, .ref q1, .ref q2, .int 0, .ref q4, .ref q5, .ref q6, .ref q7, .ref q8, .ref q9, .ref q10, .ref q11, .ref q12, .ref q13, .ref q14, .ref q15, .int 0, .ref q17, .ref q18, .ref q19, .ref q20, .ref q21, .ref q22, .ref q23, .ref q24, .ref q25, .int 0, .int 0, .int 0, .int 0, .int 0, .int 0, .int 0, .ref q33, .ref q34, .ref q35, .ref q36, .int 0, .int 0]) := hH
  obtain ⟨ρ, hρe⟩ : ∃ z, z = va_up (va_up (va_up (va_up (va_up (va_up (va_up (va_up (va_up (va_up (va_up (va_up (va_up (va_up (va_up (va_up (va_up (va_up (va_up (va_up (va_up (va_up (va_up (va_up (va_up (va_up (va_up (va_up (fun _ => none) h (some 0)) q1 (some 1)) q2 (some 2)) q4 (some 4)) q5 (some 5)) q6 (some 6)) q7 (some 7)) q8 (some 8)) q9 (some 9)) q10 (some 10)) q11 (some 11)) q12 (some 12)) q13 (some 13)) q14 (some 14)) q15 (some 15)) q17 (some 17)) q18 (some 18)) q19 (some 19)) q20 (some 20)) q21 (some 21)) q22 (some 22)) q23 (some 23)) q24 (some 24)) q25 (some 25)) q33 (some 33)) q34 (some 34)) q35 (some 35)) q36 (some 36) := ⟨_, rfl⟩
  obtain ⟨ad, hae⟩ : ∃ z : Nat → Nat, z = va_up (va_up (va_up (va_up (va_up (va_up (va_up (va_up (va_up (va_up (va_up (va_up (va_up (va_up (va_up (va_up (va_up (va_up (va_up (va_up (va_up (va_up (va_up (va_up (va_up (va_up (va_up (fun _ => h) 1 q1) 2 q2) 4 q4) 5 q5) 6 q6) 7 q7) 8 q8) 9 q9) 10 q10) 11 q11) 12 q12) 13 q13) 14 q14) 15 q15) 17 q17) 18 q18) 19 q19) 20 q20) 21 q21) 22 q22) 23 q23) 24 q24) 25 q25) 33 q33) 34 q34) 35 q35) 36 q36 := ⟨_, rfl⟩
  have had1 : ad 1 = q1 := by rw [hae]; simp [va_up]
  have had2 : ad 2 = q2 := by rw [hae]; simp [va_up]
  have had4 : ad 4 = q4 := by rw [hae]; simp [va_up]
  have had5 : ad 5 = q5 := by rw [hae]; simp [va_up]
  have had6 : ad 6 = q6 := by rw [hae]; simp [va_up]
  have had7 : ad 7 = q7 := by rw [hae]; simp [va_up]
  have had8 : ad 8 = q8 := by rw [hae]; simp [va_up]
  have had9 : ad 9 = q9 := by rw [hae]; simp [va_up]
  have had10 : ad 10 = q10 := by rw [hae]; simp [va_up]
  have had11 : ad 11 = q11 := by rw [hae]; simp [va_up]
  have had12 : ad 12 = q12 := by rw [hae]; simp [va_up]
  have had13 : ad 13 = q13 := by rw [hae]; simp [va_up]
  have had14 : ad 14 = q14 := by rw [hae]; simp [va_up]
  have had15 : ad 15 = q15 := by rw [hae]; simp [va_up]
  have had17 : ad 17 = q17 := by rw [hae]; simp [va_up]
  have had18 : ad 18 = q18 := by rw [hae]; simp [va_up]
  have had19 : ad 19 = q19 := by rw [hae]; simp [va_up]
  have had20 : ad 20 = q20 := by rw [hae]; simp [va_up]
  have had21 : ad 21 = q21 := by rw [hae]; simp [va_up]
  have had22 : ad 22 = q22 := by rw [hae]; simp [va_up]
  have had23 : ad 23 = q23 := by rw [hae]; simp [va_up]
  have had24 : ad 24 = q24 := by rw [hae]; simp [va_up]
  have had25 : ad 25 = q25 := by rw [hae]; simp [va_up]
  have had33 : ad 33 = q33 := by rw [hae]; simp [va_up]
  have had34 : ad 34 = q34 := by rw [hae]; simp [va_up]
  have had35 : ad 35 = q35 := by rw [hae]; simp [va_up]
  have had36 : ad 36 = q36 := by rw [hae]; simp [va_up]
  have hfs : [.int 0, .ref q1, .ref q2, .int 0, .ref q4, .ref q5, .ref q6, .ref q7, .ref q8, .ref q9, .ref q10, .ref q11, .ref q12, .ref q13, .ref q14, .ref q15, .int 0, .ref q17, .ref q18, .ref q19, .ref q20, .ref q21, .ref q22, .ref q23, .ref q24, .ref q25, .int 0, .int 0, .int 0, .int 0, .int 0, .int 0, .int 0, .ref q33, .ref q34, .ref q35, .ref q36, .int 0, .int 0] = mobj ad (fun _ => 0) := by simp only [mobj, had1, had2, had4, had5, had6, had7, had8, had9, had10, had11, had12, had13, had14, had15, had17, had18, had19, had20, had21, had22, had23, had24, had25, had33, had34, had35, had36]
  have hm : mPb b [36, 35, 34, 33, 25, 24, 23, 22, 21, 20, 19, 18, 17, 15, 14, 13, 12, 11, 10, 9, 8, 7, 6, 5, 4, 2, 1, 0] ρ ad := by rw [hρe, hae]; exact hm
  have had0 : ad 0 = h := by rw [hae]; simp [va_up]
  have hρ : mA ρ ad := ⟨fun k hk => hm.1 k (mlive_in k (mlive_lt hk) hk), fun a k ha => (hm.2 a k ha).2.1⟩
  have hH : xH G A s.heap H locs (mw G ρ ad b (fun _ => 0) (w5 0)) := xH_of hH (by rw [← hρe, hfs]; funext a; simp only [mwp, mw]; cases ρ a with | none => rfl | some k => (simp only [mst]; by_cases z : k = 0; (rw [if_pos z, if_pos z]); (rw [if_neg z, if_neg z]; congr; funext j; simp [w5, mZ])))
  rw [← had0] at hl
  refine lv_iconst (v := 0) hx hb dX7_init_233 (by decide) ?_
  refine lv_istore_n (lv' := [(1, .int 0), (0, .ref (ad 0))]) hx hb dX7_init_234 rfl hl (by decide) rfl (fun ls hl => ?_)
  suffices loop : ∀ (k9 d : Nat), (3650 < d + k9) → d ≤ 3650 → ∀ (H : Heap) (locs : List Loc), xH G A s.heap H locs (mw G ρ ad b (fun _ => 0) (w5 d)) → ∀ (ls : Array Slot), lv_has ls 2 [(0, .ref (ad 0)), (1, .int (nI d))] → W p l e (headSpec wsX7_init _).room s m _ below meth c H locs 27 22746 (MQ below _ _ s 27 22746 A) (F0 m 235 ls []) from
    loop 3651 0 (by omega) (by omega) _ _ hH ls (lv_sub hl [1, 0] rfl)
  intro k9
  induction k9 with
  | zero =>
    intro d hf hd
    exact absurd hf (by omega)
  | succ k9 ih =>
    intro d hf hd H locs hH ls hl
    refine lv_iload_n hx hb dX7_init_235 rfl (lv_at hl 1 rfl) ?_
    refine lv_sipush (v := 3650) hx hb dX7_init_236 (by decide) ?_
    refine lv_icmp_ge (tgt := 255) hx hb dX7_init_239 (by decide) (fun c239 => ?_) (fun c239 => ?_)
    · have c239 : 3650 ≤ d := (nI_leI (a := 3650) (b := d) (by omega) (by omega)).mp c239
      have hd2 : d = 3650 := by omega
      rw [hd2] at hH
      exact x_vret (ρ, ad) hx hb hr hlocks hK hH ⟨hρ, had0, fun a k ha => (hm.2 a k ha).2.2⟩ dX7_init_255
    · have c239 : ¬ 3650 ≤ d := fun zz => c239 ((nI_leI (a := 3650) (b := d) (by omega) (by omega)).mpr zz)
      refine lv_aload_n hx hb dX7_init_242 rfl (lv_at hl 0 rfl) ?_
      refine M_get hx hb hts hiX7 hown hK hρ hH 1 (by decide) hf9 (v := .ref (ad 1)) rfl dX7_init_243 ?_
      refine lv_iload_n hx hb dX7_init_246 rfl (lv_at hl 1 rfl) ?_
      refine lv_iconst (v := 5) hx hb dX7_init_247 (by decide) ?_
      refine M_iast hx hb hK hρ hH 1 3650 (by decide) d rfl (by omega) dX7_init_248 (fun H locs hH => ?_)
      rw [w5_s] at hH
      refine lv_iinc (v := nI (d + 1)) (lv' := [(1, .int (nI (d + 1))), (0, .ref (ad 0))]) hx hb dX7_init_249 hl (k := 1) rfl (by exact nI_add _ 1) (by decide) rfl (fun ls hl => ?_)
      refine lv_goto (tgt := 235) hx hb dX7_init_252 (by decide) ?_
      exact ih (d + 1) (by omega) (by omega) _ _ hH ls (lv_sub hl [1, 0] rfl)
