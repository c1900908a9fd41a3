/-! the foremost of a set, a quorum -/
theorem ahead_iff {N M : nT} {i j : Nat} : ahead N M i j = true ↔ M.1 4 0 < N.1 4 0 ∨ (N.1 4 0 = M.1 4 0 ∧ (M.1 8 0 < N.1 8 0 ∨ (N.1 8 0 = M.1 8 0 ∧ i < j))) := by
  unfold ahead
  by_cases h1 : N.1 4 0 = M.1 4 0
  · rw [if_pos h1]
    by_cases h2 : N.1 8 0 = M.1 8 0
    · rw [if_pos h2, decide_eq_true_iff]; omega
    · rw [if_neg h2, decide_eq_true_iff]; omega
  · rw [if_neg h1, decide_eq_true_iff]; omega
/-- b is the foremost of the set s -/
def isFore (G : gT) (n s b : Nat) : Prop := b < n ∧ s.testBit b = true ∧ ∀ j, j < n → s.testBit j = true → ¬ ahead (G.1 j) (G.1 b) j b = true
theorem isFore_uniq {G : gT} {n s b c : Nat} (h : isFore G n s b) (h' : isFore G n s c) : b = c := by
  have a1 := h.2.2 c h'.1 h'.2.1
  have a2 := h'.2.2 b h.1 h.2.1
  rw [ahead_iff] at a1 a2
  omega
/-- the voters v have a quorum in s -/
def quor (s v : Nat) : Bool := decide (cnt v < 2 * cnt (v &&& s)) || (decide (2 * cnt (v &&& s) = cnt v) && s.testBit (ls v))
theorem cnt_le (s : Nat) : cnt s ≤ 8 := cntf_le s 8
section
variable {Z : zZ} {S0 S : zS} {ad : Nat → Nat → Nat} {n w : Nat} {G : gT} {i : Nat} {N : nT}
theorem c_fore (H : zCV Z S0 ad n w S G) {i s : Nat} (hi : i < n) (his : s.testBit i = true) (b : ∀ j, j < n → (G.1 j).1 4 0 < 2 ^ 30 ∧ (G.1 j).1 8 0 < 2 ^ 30) {Qp : Option Nat → zS → Prop} (k : ∀ b, isFore G n s b → Qp (some (ad 3 b)) S) : w_X6_foremost Z (ad 0 0) (ad 3 i) (nI s) S Qp := by
  obtain ⟨r1, r2, r3, r4⟩ := cv_row H
  have hn := (zCV_n H).2
  unfold w_X6_foremost
  refine ⟨r1, ad 1 0, r2, r3, fun y5 e5 => ?_⟩
  rw [r4] at e5
  subst e5
  refine zlp3 (fun a x S' => S' = S ∧ ∃ k' b, k' ≤ n ∧ x = nI k' ∧ a = ad 3 b ∧ b < n ∧ s.testBit b = true ∧ ∀ j, j < k' → s.testBit j = true → ¬ ahead (G.1 j) (G.1 b) j b = true) (fun _ x _ => 9 - x.toNatClampNeg) (fun rec a x S' hI hrec => ?_) _ _ S ⟨rfl, 0, i, by omega, rfl, rfl, hi, his, fun j hj => absurd hj (by omega)⟩
  obtain ⟨rfl, k', c, hk, rfl, rfl, hc, hcs, hmax⟩ := hI
  unfold wb_X6_foremost_16
  have hle : (nI n ≤ nI k') ↔ n ≤ k' := nI_leI (by omega) (by omega)
  rw [hle]
  refine ⟨fun q => ?_, fun q => ?_⟩
  · have : k' = n := by omega
    subst this
    exact k c ⟨hc, hcs, hmax⟩
  · obtain ⟨v1, v2, v3⟩ := cv_at H (k := k') (by omega)
    have cc := (cv_g H (j := k') (by omega)).1
    have hμ : 9 - (nI (k' + 1)).toNatClampNeg < 9 - (nI k').toNatClampNeg := by rw [nI_clamp (by omega), nI_clamp (by omega)]; omega
    rw [nI_1]
    refine ⟨r3, v1, ad 3 k', v2, v3, ?_⟩
    unfold w_X6_isIn
    rw [cc.1, isc _ (by omega), bt_nI _ (by omega)]
    refine ⟨fun q3 => ⟨fun _ y e => ?_, fun z => absurd rfl z⟩, fun q3 => ⟨fun z => absurd z (by decide), fun _ => ?_⟩⟩
    · subst e
      refine hrec _ _ _ ⟨rfl, k' + 1, c, by omega, rfl, rfl, hc, hcs, fun j hj hjs => ?_⟩ hμ
      rcases Nat.lt_succ_iff_lt_or_eq.mp hj with h | h
      · exact hmax j h hjs
      · subst h; rw [q3] at hjs; exact Bool.noConfusion hjs
    · have q3 : s.testBit k' = true := by simpa using q3
      refine c_ahead H (i := k') (by omega) hc (b _ (by omega)).1 (b _ hc).1 (b _ (by omega)).2 (b _ hc).2 ⟨fun q4 y e => ?_, fun q4 y e => ?_⟩
      · subst e
        have q5 := z01_f q4
        refine hrec _ _ _ ⟨rfl, k' + 1, c, by omega, rfl, rfl, hc, hcs, fun j hj hjs => ?_⟩ hμ
        rcases Nat.lt_succ_iff_lt_or_eq.mp hj with h | h
        · exact hmax j h hjs
        · subst h; rw [q5]; exact Bool.noConfusion
      · subst e
        have q5 := z01_t q4
        refine hrec _ _ _ ⟨rfl, k' + 1, k', by omega, rfl, rfl, by omega, q3, fun j hj hjs => ?_⟩ hμ
        rcases Nat.lt_succ_iff_lt_or_eq.mp hj with h | h
        · have a1 := hmax j h hjs
          rw [ahead_iff] at a1 q5 ⊢
          omega
        · subst h; rw [ahead_iff]; omega
end
def bcn (x : Int32) : Int32 :=
  let y1 := x - (((x.toUInt32 >>> ((1 : Int32).toUInt32 &&& Int32.toUInt32 31)).toInt32) &&& 1431655765)
  let y2 := (y1 &&& 858993459) + (((y1.toUInt32 >>> ((2 : Int32).toUInt32 &&& Int32.toUInt32 31)).toInt32) &&& 858993459)
  let y3 := (y2 + ((y2.toUInt32 >>> ((4 : Int32).toUInt32 &&& Int32.toUInt32 31)).toInt32)) &&& 252645135
  let y4 := y3 + ((y3.toUInt32 >>> ((8 : Int32).toUInt32 &&& Int32.toUInt32 31)).toInt32)
  let y5 := y4 + ((y4.toUInt32 >>> ((16 : Int32).toUInt32 &&& Int32.toUInt32 31)).toInt32)
  y5 &&& 63
theorem bcn_cnt : ∀ s, s < 256 → bcn (nI s) = nI (cnt s) := by decide +kernel
theorem c_bits {Z : zZ} {S : zS} {s : Nat} (hs : s < 256) {Qp : Int32 → zS → Prop} (k : Qp (nI (cnt s)) S) : w_J6_bitCount_0f7a4 Z (nI s) S Qp := by
  unfold w_J6_bitCount_0f7a4
  intro y1 e1 y2 e2 y3 e3 y4 e4 y5 e5
  have h := bcn_cnt s hs
  unfold bcn at h
  subst e1 e2 e3 e4 e5
  rw [← h] at k
  exact k
theorem and_lt256 {a b : Nat} (h : a < 256) : a &&& b < 256 := Nat.lt_of_le_of_lt Nat.and_le_left h
theorem c_quor {Z : zZ} {S : zS} {s v : Nat} (hv : v < 256) (h0 : ls v < 8) {Qp : Int32 → zS → Prop} (k : Qp (if quor s v then 1 else 0) S) : w_X6_isQuorum Z (nI s) (nI v) S Qp := by
  unfold w_X6_isQuorum
  rw [nx_and]
  have c1 := cnt_le v
  have c2 := cnt_le (v &&& s)
  have kT : quor s v = true → Qp 1 S := fun h => by rw [h] at k; exact k
  have kF : quor s v = false → Qp 0 S := fun h => by rw [h] at k; exact k
  refine c_bits (and_lt256 hv) (fun y3 e3 => c_bits hv ?_)
  have e3 : y3 = nI (2 * cnt (v &&& s)) := by rw [e3]; exact pk_mul 2 _
  subst e3
  have e1 : (nI (cnt v) < nI (2 * cnt (v &&& s))) ↔ cnt v < 2 * cnt (v &&& s) := nI_ltI (by omega) (by omega)
  have e2 : (nI (2 * cnt (v &&& s)) = nI (cnt v)) ↔ 2 * cnt (v &&& s) = cnt v := nI_eq (by omega) (by omega)
  rw [e1, e2]
  refine ⟨fun q => kT ?_, fun q => ⟨fun q2 => kF ?_, fun q2 => c_leastOf (fun e => absurd h0 (by omega)) (fun _ => ?_)⟩⟩
  · unfold quor; simp [q]
  · unfold quor; simp [q, q2]
  · unfold w_X6_isIn
    rw [isc _ (by omega), bt_nI _ (by omega)]
    refine ⟨fun q3 => ⟨fun _ => kF ?_, fun z => absurd rfl z⟩, fun q3 => ⟨fun z => absurd z (by decide), fun _ => kT ?_⟩⟩
    · unfold quor; simp [q, q3]
    · unfold quor; simp [q2, q3]
