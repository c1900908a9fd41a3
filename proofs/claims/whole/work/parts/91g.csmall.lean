/-! small things of the class: least of a set, member behind, least full, ahead of; begin; a table copied -/
theorem c_leastOf {Z : zZ} {S : zS} {s : Nat} {Qp : Int32 → zS → Prop} (k1 : ls s = 8 → Qp (-1) S) (k2 : ls s < 8 → Qp (nI (ls s)) S) : w_X6_leastOf Z (nI s) S Qp := by
  unfold w_X6_leastOf
  refine zlp2 (fun x S' => S' = S ∧ ∃ k, k ≤ 8 ∧ x = nI (8 - k) ∧ lsf s k = ls s) (fun x _ => 9 - x.toNatClampNeg) (fun rec x S' hI hrec => ?_) 0 S ⟨rfl, 8, by omega, rfl, rfl⟩
  obtain ⟨rfl, k, hk, rfl, hf⟩ := hI
  unfold wb_X6_leastOf_2 w_X6_isIn
  have hle : (8 : Int32) ≤ nI (8 - k) ↔ 8 ≤ 8 - k := nI_leI (a := 8) (by omega) (by omega)
  rw [hle, isc (nI s) (by omega), bt_nI s (by omega)]
  refine ⟨fun q => ?_, fun q => ?_⟩
  · have : k = 0 := by omega
    subst this
    exact k1 hf.symm
  · obtain ⟨j, rfl⟩ : ∃ j, k = j + 1 := ⟨k - 1, by omega⟩
    have e1 : 8 - (j + 1) = 7 - j := by omega
    have hd : lsf s (j + 1) = if s.testBit (7 - j) then 7 - j else lsf s j := rfl
    rw [e1]
    refine ⟨fun q2 => ⟨fun _ y e => ?_, fun q3 => absurd rfl q3⟩, fun q2 => ⟨fun q3 => absurd q3 (by decide), fun _ => ?_⟩⟩
    · subst e
      rw [if_neg (by simp [q2])] at hd
      refine hrec _ _ ⟨rfl, j, by omega, ?_, hd.symm.trans hf⟩ ?_
      · rw [nI_1]; congr 1; omega
      · rw [nI_1, nI_clamp (by omega), nI_clamp (by omega)]; omega
    · rw [if_pos (by simpa using q2)] at hd
      have : ls s = 7 - j := hf.symm.trans hd
      rw [← this]
      exact k2 (by omega)
/-- the member of s behind node i, round (of 8) -/
def mbf (s i : Nat) : Nat → Nat
  | 0 => i
  | k + 1 => if s.testBit ((i + (7 - k)) % 8) then (i + (7 - k)) % 8 else mbf s i k
theorem mbf_lt (s i : Nat) (hi : i < 8) : ∀ k, mbf s i k < 8 := by
  intro k
  induction k with
  | zero => exact hi
  | succ k ih => unfold mbf; split <;> omega
section
variable {Z : zZ} {S0 S : zS} {ad : Nat → Nat → Nat} {n w : Nat} {G : gT} {i : Nat} {N : nT}
theorem c_behind (H : zCV Z S0 ad n w S G) {r : Nat} (hr : zri n r) (hi : i < 8) {Qp : Int32 → zS → Prop} (k : Qp (nI (mbf ((G.2 r).1 1 0) i 7)) S) : w_X5_memberBehind Z (ad 12 r) (nI i) S Qp := by
  have hrk := (zCV_rg H hr).1
  have g3 : zI S (ad 12 r) 3 = nI ((G.2 r).1 1 0) := (cv_R H hr).1.2.1
  unfold w_X5_memberBehind
  refine zlp2 (fun x S' => S' = S ∧ ∃ k, k ≤ 7 ∧ x = nI (8 - k) ∧ mbf ((G.2 r).1 1 0) i k = mbf ((G.2 r).1 1 0) i 7) (fun x _ => 9 - x.toNatClampNeg) (fun rec x S' hI hrec => ?_) _ S ⟨rfl, 7, by omega, rfl, rfl⟩
  obtain ⟨rfl, j', hk, rfl, hf⟩ := hI
  unfold wb_X5_memberBehind_2 w_X6_isIn
  have hle : (8 : Int32) ≤ nI (8 - j') ↔ 8 ≤ 8 - j' := nI_leI (a := 8) (by omega) (by omega)
  rw [hle]
  refine ⟨fun q => ?_, fun q y1 e1 => ⟨hrk, ?_⟩⟩
  · have : j' = 0 := by omega
    subst this
    have hf : i = mbf ((G.2 r).1 1 0) i 7 := hf
    rw [← hf] at k
    exact k
  · obtain ⟨j, rfl⟩ : ∃ j, j' = j + 1 := ⟨j' - 1, by omega⟩
    have e2 : y1 = nI ((i + (7 - j)) % 8) := by
      rw [e1, nI_add, show i + (8 - (j + 1)) = i + (7 - j) by omega]
      exact pk_rem (d := 8) (by omega) (by omega) (by omega)
    subst e2
    have hm : (i + (7 - j)) % 8 < 8 := Nat.mod_lt _ (by omega)
    rw [g3, isc _ (by omega), bt_nI _ (by omega)]
    have hd : mbf ((G.2 r).1 1 0) i (j + 1) = if ((G.2 r).1 1 0).testBit ((i + (7 - j)) % 8) then (i + (7 - j)) % 8 else mbf ((G.2 r).1 1 0) i j := rfl
    refine ⟨fun q2 => ⟨fun _ y e => ?_, fun q3 => absurd rfl q3⟩, fun q2 => ⟨fun q3 => absurd q3 (by decide), fun _ => ?_⟩⟩
    · subst e
      rw [if_neg (by simp [q2])] at hd
      refine hrec _ _ ⟨rfl, j, by omega, ?_, hd.symm.trans hf⟩ ?_
      · rw [nI_1]; congr 1; omega
      · rw [nI_1, nI_clamp (by omega), nI_clamp (by omega)]; omega
    · rw [if_pos (by simpa using q2)] at hd
      rw [← hf, hd] at k
      exact k
/-- the least full of a ring's members -/
def lff (R : nT) : Nat → Nat → Nat
  | 0, a => a
  | k + 1, a => lff R k (if (R.1 1 0).testBit (7 - k) then (if R.1 5 (7 - k) < a then R.1 5 (7 - k) else a) else a)
theorem lff_le (R : nT) : ∀ k a, lff R k a ≤ a := by
  intro k
  induction k with
  | zero => intro a; exact Nat.le_refl _
  | succ k ih =>
    intro a
    unfold lff
    refine Nat.le_trans (ih _) ?_
    split
    · split <;> omega
    · omega
theorem c_leastFull (H : zCV Z S0 ad n w S G) {r : Nat} (hr : zri n r) (hb : ∀ j, j < 8 → (G.2 r).1 5 j < 2 ^ 30) {Qp : Int32 → zS → Prop} (k : Qp (nI (lff (G.2 r) 8 100)) S) : w_X5_leastFull Z (ad 12 r) S Qp := by
  obtain ⟨hrk, -, q1, -, -, q2', q3⟩ := zCV_rg H hr
  have g3 : zI S (ad 12 r) 3 = nI ((G.2 r).1 1 0) := (cv_R H hr).1.2.1
  have g5 := (cv_R H hr).2.2
  unfold w_X5_leastFull
  refine zlp3 (fun a x S' => S' = S ∧ ∃ k a', k ≤ 8 ∧ x = nI (8 - k) ∧ a = nI a' ∧ a' ≤ 100 ∧ lff (G.2 r) k a' = lff (G.2 r) 8 100) (fun _ x _ => 9 - x.toNatClampNeg) (fun rec a x S' hI hrec => ?_) _ _ S ⟨rfl, 8, 100, by omega, rfl, rfl, by omega, rfl⟩
  obtain ⟨rfl, j', a', hk, rfl, rfl, ha, hf⟩ := hI
  unfold wb_X5_leastFull_5 w_X6_isIn
  have hle : (8 : Int32) ≤ nI (8 - j') ↔ 8 ≤ 8 - j' := nI_leI (a := 8) (by omega) (by omega)
  rw [hle, g3, isc _ (by omega), bt_nI _ (by omega)]
  refine ⟨fun q => ?_, fun q => ⟨hrk, ?_⟩⟩
  · have : j' = 0 := by omega
    subst this
    have hf : a' = lff (G.2 r) 8 100 := hf
    rw [← hf] at k
    exact k
  · obtain ⟨j, rfl⟩ : ∃ j, j' = j + 1 := ⟨j' - 1, by omega⟩
    have e1 : 8 - (j + 1) = 7 - j := by omega
    rw [e1, nI_clamp (by omega)]
    have hd : lff (G.2 r) (j + 1) a' = lff (G.2 r) j (if ((G.2 r).1 1 0).testBit (7 - j) then (if (G.2 r).1 5 (7 - j) < a' then (G.2 r).1 5 (7 - j) else a') else a') := rfl
    have e8 : nI (7 - j) + 1 = nI (8 - j) := by rw [nI_1]; congr 1; omega
    have hμ : 9 - (nI (8 - j)).toNatClampNeg < 9 - (nI (8 - (j + 1))).toNatClampNeg := by rw [nI_clamp (by omega), nI_clamp (by omega)]; omega
    rw [e8]
    refine ⟨fun q2 => ⟨fun _ y e => ?_, fun q3 => absurd rfl q3⟩, fun q2 => ⟨fun z => absurd z (by decide), fun _ => ⟨ad 14 r, q1, q2', by rw [q3]; exact vp_in_nI (by omega) (by omega), fun y9 e9 y e => ?_⟩⟩⟩
    · subst e
      rw [if_neg (by simp [q2])] at hd
      exact hrec _ _ _ ⟨rfl, j, a', by omega, rfl, rfl, ha, hd.symm.trans hf⟩ hμ
    · subst e
      rw [if_pos (by simpa using q2)] at hd
      have hl : (nI ((G.2 r).1 5 (7 - j)) < nI a') ↔ (G.2 r).1 5 (7 - j) < a' := nI_ltI (by have := hb (7 - j) (by omega); omega) (by omega)
      refine hrec _ _ _ ⟨rfl, j, _, by omega, rfl, ?_, ?_, hd.symm.trans hf⟩ hμ
      · rw [g5 (7 - j) (by omega)] at e9
        rw [e9]
        by_cases c : (G.2 r).1 5 (7 - j) < a'
        · rw [if_pos c, if_pos (hl.mpr c)]
        · rw [if_neg c, if_neg (fun z => c (hl.mp z))]
      · split <;> omega
end
