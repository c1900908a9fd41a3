/-! a node by its number, a key; the whole ring; the foremost -/
section
variable {Z : zZ} {S0 S : zS} {ad : Nat → Nat → Nat} {n w : Nat} {G : gT} {i : Nat} {N : nT}
theorem c_nodeAt (H : zCV Z S0 ad n w S G) {x : Int32} {Qp : Option Nat → zS → Prop} {Xp : String → zS → Prop} (k1 : ∀ i, i < n → x = nI i → Qp (some (ad 3 i)) S) (k2 : (x < 0 ∨ nI n ≤ x) → Xp "java/lang/IndexOutOfBoundsException" S) : w_X6_nodeAt Z (ad 0 0) x S Qp Xp := by
  obtain ⟨r1, r2, r3, r4⟩ := cv_row H
  have hn := (zCV_n H).2
  unfold w_X6_nodeAt wJ_X6_nodeAt_13
  refine ⟨fun q => k2 (Or.inl q), fun q => ⟨r1, ad 1 0, r2, r3, ?_⟩⟩
  rw [r4]
  rcases pk_ix x (n := n) (by omega) with h | h | ⟨j, hj, rfl⟩
  · exact absurd h q
  · exact ⟨fun z => absurd h (Int32.not_le.mpr z), fun _ => k2 (Or.inr h)⟩
  · obtain ⟨v1, v2, v3⟩ := cv_at H hj
    rw [r4] at v1
    exact ⟨fun _ => ⟨v1, ad 3 j, v2, k1 j hj rfl⟩, fun z => absurd (nI_lt hj (by omega)) z⟩
theorem c_key {Z : zZ} {S : zS} {x : Int32} {Qp : zS → Prop} {Xp : String → zS → Prop} (k1 : ∀ i, i < 16 → x = nI i → Qp S) (k2 : (x < 0 ∨ 16 ≤ x) → Xp "java/lang/IndexOutOfBoundsException" S) : w_X6_checkKey Z x S Qp Xp := by
  unfold w_X6_checkKey wJ_X6_checkKey_10
  rcases pk_ix x (n := 16) (by omega) with h | h | ⟨j, hj, rfl⟩
  · exact ⟨fun q => k2 (Or.inl q), fun q => absurd h q⟩
  · exact ⟨fun q => k2 (Or.inl q), fun q => ⟨fun z => absurd h (Int32.not_le.mpr z), fun _ => k2 (Or.inr h)⟩⟩
  · exact ⟨fun q => absurd q (nI_pos (by omega)), fun q => ⟨fun _ => k1 j hj rfl, fun z => absurd (nI_lt hj (by omega)) z⟩⟩
/-- the ring r holds just the set s, and its token is there -/
def whole? (G : gT) (n r s : Nat) : Bool := decide ((G.2 r).1 1 0 = s) && (decide ((G.2 r).1 2 0 ≠ 0) && decide (ofSet G n s r = s))
theorem c_whole (H : zCV Z S0 ad n w S G) {r s : Nat} (hr : zri n r) (hs : s < 256) (hm : (G.2 r).1 1 0 < 256) (h2 : (G.2 r).1 2 0 ≤ 8) {Qp : Int32 → zS → Prop} (k : Qp (if whole? G n r s then 1 else 0) S) : w_X6_isWhole Z (ad 0 0) (ad 12 r) (nI s) S Qp := by
  obtain ⟨r1, r2, r3, r4⟩ := cv_row H
  have hn := (zCV_n H).2
  have hrk := (zCV_rg H hr).1
  obtain ⟨⟨g0, g1, g2, g3⟩, -, -⟩ := cv_R H hr
  have e1 : (nI ((G.2 r).1 1 0) = nI s) ↔ (G.2 r).1 1 0 = s := nI_eq (by omega) (by omega)
  have e2 : (nI ((G.2 r).1 2 0) - 1 = -1) ↔ (G.2 r).1 2 0 = 0 := by
    constructor
    · intro q
      refine (nI_eq (b := 0) (by omega) (by omega)).mp ?_
      have := congrArg (· + 1) q
      rw [nI_0]
      simpa using this
    · intro q; rw [q]; decide
  have kT : whole? G n r s = true → Qp 1 S := fun h => by rw [h] at k; exact k
  have kF : whole? G n r s = false → Qp 0 S := fun h => by rw [h] at k; exact k
  unfold w_X6_isWhole
  rw [g1, g2, e1, e2]
  have hlt : ofSet G n s r < 256 := mk_lt8 _ hn
  have e3 : (nI (ofSet G n s r) = nI s) ↔ ofSet G n s r = s := nI_eq (by omega) (by omega)
  refine ⟨hrk, fun q => kF ?_, fun q => ⟨fun q2 => kF ?_, fun q2 => ⟨r1, c_ofRing H ?_⟩⟩⟩
  · unfold whole?; simp [q]
  · unfold whole?; simp [q2]
  · rw [e3]
    refine ⟨fun q3 => kF ?_, fun q3 => kT ?_⟩
    · unfold whole?; simp [q3]
    · unfold whole?; simp [q, q2, q3]
end
