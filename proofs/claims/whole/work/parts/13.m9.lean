
/-- a row of 12 that is made for a while, beside the model's cells -/
def tbase (G : XG) (b : XW) (q : Nat) (c : Nat → Int32) : XW := va_up b q (some (.inl (G.2 0, 12, .inl c)))
theorem tb_at {G : XG} {ρ : Nat → Option Nat} {ad : Nat → Nat} {b : XW} {I : Nat → Int32} {F : Nat → Nat → Int32} {q : Nat} {c : Nat → Int32} (hq : mw G ρ ad b I F q = none) : mw G ρ ad (tbase G b q c) I F q = some (.inl (G.2 0, 12, .inl c)) := by
  have hr : ρ q = none := by
    cases h : ρ q with
    | none => rfl
    | some k => simp [mw, h] at hq
  simp [mw, hr, tbase, va_up]
theorem tb_up {G : XG} {ρ : Nat → Option Nat} {ad : Nat → Nat} {b : XW} {I : Nat → Int32} {F : Nat → Nat → Int32} {q : Nat} {c : Nat → Int32} {X : XW} (hX : X = b ∨ ∃ d, X = tbase G b q d) (hq : mw G ρ ad b I F q = none) : va_up (mw G ρ ad X I F) q (some (.inl (G.2 0, 12, .inl c))) = mw G ρ ad (tbase G b q c) I F := by
  have hr : ρ q = none := by
    cases h : ρ q with
    | none => rfl
    | some k => simp [mw, h] at hq
  funext a
  by_cases ha : a = q
  · subst ha
    rw [tb_at hq]
    simp [va_up]
  · rw [show va_up (mw G ρ ad X I F) q (some (.inl (G.2 0, 12, .inl c))) a = mw G ρ ad X I F a from if_neg ha]
    simp only [mw]
    cases h : ρ a with
    | some k => rfl
    | none =>
      show X a = tbase G b q c a
      rw [show tbase G b q c a = b a from if_neg ha]
      rcases hX with rfl | ⟨d, rfl⟩
      · rfl
      · exact if_neg ha
theorem tb_non {G : XG} {ρ : Nat → Option Nat} {ad : Nat → Nat} {b : XW} {I J : Nat → Int32} {F K : Nat → Nat → Int32} {q : Nat} (hq : mw G ρ ad b I F q = none) : mw G ρ ad b J K q = none := by
  have hr : ρ q = none := by
    cases h : ρ q with
    | none => rfl
    | some k => simp [mw, h] at hq
  simp only [mw, hr] at hq ⊢
  exact hq
theorem tb_drop {G : XG} {ρ : Nat → Option Nat} {ad : Nat → Nat} {b : XW} {I J : Nat → Int32} {F K : Nat → Nat → Int32} {q : Nat} {c : Nat → Int32} {A : Nat → Prop} {H0 H : Heap} {locs : List Loc} (hq : mw G ρ ad b I F q = none) (hH : xH G A H0 H locs (mw G ρ ad (tbase G b q c) J K)) : xH G A H0 H locs (mw G ρ ad b J K) := by
  refine xH_sub hH (fun a e h => ?_)
  by_cases ha : a = q
  · subst ha
    rw [tb_non (J := J) (K := K) hq] at h
    cases h
  · simp only [mw] at h ⊢
    cases hr : ρ a with
    | some k => rw [hr] at h; exact h
    | none =>
      rw [hr] at h
      show tbase G b q c a = some e
      rw [show tbase G b q c a = b a from if_neg ha]
      exact h
section TR
variable {p : Program} {l : Launch} {e : Env} {R : Room} {s : State} {m : MethodId} {args : Array Value} {below : List Frame} {meth : Method} {c : Code} {H : Heap} {locs : List Loc} {cells slots : Nat} {Q : State → Prop}
variable {cc : ByteArray} {pc : Nat} {ls : Array Slot} {rest : List Value} {G : XG} {A : Nat → Prop} {H0 : Heap} {ρ : Nat → Option Nat} {ad : Nat → Nat} {b : XW} {I I0 : Nat → Int32} {F F0' : Nat → Nat → Int32} {q : Nat} {cu : Nat → Int32}
theorem T_iald (hexec : p.tables.exec = Jvm.exec) (hb : c.code = cc) (hK : xK G s) (hρ : mA ρ ad) (hH : xH G A H0 H locs (mw G ρ ad (tbase G b q cu) I F)) (hq : mw G ρ ad b I0 F0' q = none) {i : Int32} (j : Nat) (hi : i = nI j) (hj : j < 12) (hdg : decode cc pc = .ok (.iaload, 1))
    (kk : W p l e R s m args below meth c H locs cells slots Q (F0 m (pc + 1) ls (.int (cu j) :: rest))) : W p l e R s m args below meth c H locs cells slots Q (F0 m pc ls (.int i :: .ref q :: rest)) := by
  refine x_iald hexec hb hK hH (tb_at (tb_non hq)) (vI_in hi hj (by decide)) hdg ?_
  rw [hi, nI_clamp (by omega)]
  exact kk
theorem T_iast (hexec : p.tables.exec = Jvm.exec) (hb : c.code = cc) (hK : xK G s) (hρ : mA ρ ad) (hH : xH G A H0 H locs (mw G ρ ad (tbase G b q cu) I F)) (hq : mw G ρ ad b I0 F0' q = none) {i x : Int32} (j : Nat) (hi : i = nI j) (hj : j < 12) (hdg : decode cc pc = .ok (.iastore, 1))
    (kk : ∀ (H1 : Heap) (locs1 : List Loc), xH G A H0 H1 locs1 (mw G ρ ad (tbase G b q (upd cu j x)) I F) → W p l e R s m args below meth c H1 locs1 cells slots Q (F0 m (pc + 1) ls rest)) : W p l e R s m args below meth c H locs cells slots Q (F0 m pc ls (.int x :: .int i :: .ref q :: rest)) := by
  refine x_iast hexec hb hK hH (tb_at (tb_non hq)) (vI_in hi hj (by decide)) hdg (fun H1 locs1 h => kk H1 locs1 ?_)
  rw [tb_up (Or.inr ⟨_, rfl⟩) (tb_non hq), hi, nI_clamp (by omega)] at h
  exact h
theorem T_new (hexec : p.tables.exec = Jvm.exec) (hb : c.code = cc) (hK : xK G s) (hH : xH G A H0 H locs (mw G ρ ad b I F)) (harr : (Cond.arrayClass (newarray.typeOf .int)).before args s = true) (hcells : cells + 1 ≤ R.cells) (hslots : slots + 12 ≤ R.slots) (hdg : decode cc pc = .ok (.newarray .int, 2))
    (kk : ∀ (q : Nat) (H1 : Heap), mw G ρ ad b I F q = none → xH G A H0 H1 locs (mw G ρ ad (tbase G b q (fun _ => 0)) I F) → W p l e R s m args below meth c H1 locs (cells + 1) (slots + 12) Q (F0 m (pc + 2) ls (.ref q :: rest))) : W p l e R s m args below meth c H locs cells slots Q (F0 m pc ls (.int 12 :: rest)) := by
  refine x_newa hexec hb harr rfl 0 (cA := G.2 0) rfl (fun C h => by cases h) hK hH (N' := 12) (a0 := (12, .inl (fun _ => 0))) (fun cA => rfl) (by decide) (by decide) (by decide) hcells hslots hdg (fun q H1 hq h => kk q H1 hq ?_)
  rw [tb_up (Or.inl rfl) hq] at h
  exact h
end TR
/-! FORESEEN: a face's cup, day by day -/
def fdC (F : Nat → Nat → Int32) (t f day : Nat) (c : Nat → Int32) : (Nat → Int32) × Int32 :=
  let n := if F 8 t = 0 then F 1 day * strI (nI day - F 12 f) else 0
  let k := if 400 - l_sum c 4 ≤ n then 400 - l_sum c 4 else n
  (fun g => upd c (ix (gradI F f (nI day))) (c (ix (gradI F f (nI day))) + k) g - upd c (ix (gradI F f (nI day))) (c (ix (gradI F f (nI day))) + k) g * F 2 day / 100, n - k)
def fsim (F : Nat → Nat → Int32) (t f now : Nat) : Nat → (Nat → Int32) × Int32
  | 0 => (fun g => F 14 (4 * f + g), 0)
  | d + 1 => if now + d < 3650 then ((fdC F t f (now + d) (fsim F t f now d).1).1, (fsim F t f now d).2 + (fdC F t f (now + d) (fsim F t f now d).1).2) else fsim F t f now d
def ovS (F : Nat → Nat → Int32) (t now o d : Nat) : Int32 := l_sum (fun i => (fsim F t (3 * t + i) now d).2) o
def roF (F : Nat → Nat → Int32) (k d : Nat) (v : Nat → Int32) : Nat → Nat → Int32 := fun q j => if q = 34 ∧ 24 * k ≤ j ∧ j < 24 * k + d then v (j - 24 * k) else F q j
theorem roF_0 (F : Nat → Nat → Int32) (k : Nat) (v : Nat → Int32) : roF F k 0 v = F := by
  funext q j
  unfold roF
  rw [if_neg (by omega)]
theorem roF_s (F : Nat → Nat → Int32) (k d : Nat) (v : Nat → Int32) : setA (roF F k d v) 34 (24 * k + d) (v d) = roF F k (d + 1) v := by
  funext q j
  rw [setA_e]
  unfold roF
  by_cases h : q = 34
  · subst h
    by_cases hj : j = 24 * k + d
    · subst hj
      rw [if_pos ⟨rfl, rfl⟩, if_pos (by omega), show 24 * k + d - 24 * k = d by omega]
    · rw [if_neg (by omega)]
      simp [show (24 * k ≤ j ∧ j < 24 * k + (d + 1)) ↔ (24 * k ≤ j ∧ j < 24 * k + d) by omega]
  · simp [h]
theorem roF_n (F : Nat → Nat → Int32) (k d : Nat) (v : Nat → Int32) {q : Nat} (h : q ≠ 34) : roF F k d v q = F q := by
  funext j
  unfold roF
  rw [if_neg (by omega)]
theorem lsum_cong {A B : Nat → Int32} : ∀ {n : Nat}, (∀ j, j < n → A j = B j) → l_sum A n = l_sum B n
  | 0, _ => rfl
  | n + 1, h => by
    show l_sum A n + A n = l_sum B n + B n
    rw [lsum_cong (fun j hj => h j (by omega)), h n (by omega)]
theorem lsum_step {A B : Nat → Int32} {i : Nat} {o : Int32} (hA : A i = B i + o) : ∀ {n : Nat}, i < n → l_sum (fun j => if j < i + 1 then A j else B j) n = l_sum (fun j => if j < i then A j else B j) n + o
  | 0, h => absurd h (by omega)
  | n + 1, h => by
    show l_sum (fun j => if j < i + 1 then A j else B j) n + (if n < i + 1 then A n else B n) = l_sum (fun j => if j < i then A j else B j) n + (if n < i then A n else B n) + o
    rcases Nat.lt_or_ge i n with q | q
    · rw [lsum_step hA q, if_neg (by omega), if_neg (by omega), Int32.add_assoc, Int32.add_assoc, Int32.add_comm o]
    · have e : n = i := by omega
      subst e
      rw [if_pos (by omega), if_neg (by omega), hA, lsum_cong (A := fun j => if j < n + 1 then A j else B j) (B := fun j => if j < n then A j else B j) (fun j hj => by simp [show j < n + 1 by omega, hj]), Int32.add_assoc]
