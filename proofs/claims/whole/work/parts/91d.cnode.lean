/-! the class's methods of one node: record N of node i -/
section
variable {Z : zZ} {S0 S : zS} {ad : Nat → Nat → Nat} {n w : Nat} {G : gT} {i : Nat} {N : nT}
theorem cn_0 (H : zCV Z S0 ad n w S G) : zCV Z S0 ad n w S (gN G i (G.1 i)) := by rw [gN_self]; exact H
theorem cn_I (H : zCV Z S0 ad n w S (gN G i N)) (hi : i < n) (f : Nat) (hf : f < 12) (h2 : f ≠ 2) {v : Nat} (hp : f ≠ 11 ∨ v ≤ N.1 11 0) : zCV Z S0 ad n w (zsI S (ad (cT f) i) (cS f) (nI v)) (gN G i (nsI N f 0 v)) := by
  have h := cs_I H hi f hf h2 (v := v) (by rw [g1_Ns]; exact hp)
  rw [gN_gN, g1_Ns] at h
  exact h
theorem cn_J (H : zCV Z S0 ad n w S (gN G i N)) (hi : i < n) (f k t : Nat) (sl : Nat) (v : Int64) (hf : (f = 0 ∧ k = 0 ∧ t = 6 ∧ sl = 3) ∨ (f = 1 ∧ t = 7 ∧ sl = k) ∨ (f = 2 ∧ t = 10 ∧ sl = k)) : zCV Z S0 ad n w (zsJ S (ad t i) sl v) (gN G i (nsJ N f k v)) := by
  have h := cs_J H hi f k t sl v hf
  rw [gN_gN, g1_Ns] at h
  exact h
theorem cn_H (H : zCV Z S0 ad n w S (gN G i N)) {p : Nat} (hi : i < n) (v : Nat) (o : Option Nat) (h0 : v = 0 → o = none) (h1 : v ≠ 0 → ∃ b, o = some b ∧ zMg Z S b ((G.2 (N.1 2 0)).1 6 p) ((G.2 (N.1 2 0)).1 7 p) ((G.2 (N.1 2 0)).2 6 p) ((G.2 (N.1 2 0)).1 8 p)) : zCV Z S0 ad n w (zsR S (ad 11 i) p o) (gN G i (nsI N 16 p v)) := by
  have h := cs_H H (p := p) hi v o h0 (by rw [g1_Ns, g2_N]; exact h1)
  rw [gN_gN, g1_Ns] at h
  exact h
theorem cn_K (H : zCV Z S0 ad n w S (gN G i N)) {p : Nat} (hi : i < n) (v key : Nat) (x : Int64) (o : Option Nat) (h0 : v = 0 → o = none) (h1 : v ≠ 0 → ∃ b, o = some b ∧ zMk1 Z S b key x) : zCV Z S0 ad n w (zsR S (ad 8 i) p o) (gN G i (nsJ (nsI (nsI N 14 p v) 15 p key) 14 p x)) := by
  have h := cs_K H (p := p) hi v key x o h0 h1
  rw [gN_gN, g1_Ns] at h
  exact h
/-- what node i's cells say -/
theorem cv_n (H : zCV Z S0 ad n w S (gN G i N)) (hi : i < n) : zCn Z S ad i N (G.2 (N.1 2 0)) ∧ zri n (N.1 2 0) := by
  have h := H.2.2.1 i hi
  rw [g1_Ns, g2_N] at h
  exact h
theorem cv_I (H : zCV Z S0 ad n w S (gN G i N)) (hi : i < n) (f : Nat) (hf : f < 12) (h2 : f ≠ 2) : zI S (ad (cT f) i) (cS f) = nI (N.1 f 0) := (cv_n H hi).1.1.2 f hf h2
theorem cv_num (H : zCV Z S0 ad n w S (gN G i N)) (hi : i < n) : zI S (ad 3 i) 0 = nI i := (cv_n H hi).1.1.1
theorem cv_ring (H : zCV Z S0 ad n w S (gN G i N)) (hi : i < n) : zR S (ad 3 i) 7 = some (ad 12 (N.1 2 0)) := (cv_n H hi).1.2.1
theorem cv_R (H : zCV Z S0 ad n w S G) {r : Nat} (hr : zri n r) : zCr S ad r (G.2 r) := H.2.2.2.1 r hr
/-! the log -/
def nTell (N : nT) (a b c d e f : Int64) : nT := nsI (nsJ (nsJ (nsJ (nsJ (nsJ (nsJ N 2 (N.1 10 0 % 100 * 6) a) 2 (N.1 10 0 % 100 * 6 + 1) b) 2 (N.1 10 0 % 100 * 6 + 2) c) 2 (N.1 10 0 % 100 * 6 + 3) d) 2 (N.1 10 0 % 100 * 6 + 4) e) 2 (N.1 10 0 % 100 * 6 + 5) f) 10 0 (N.1 10 0 + 1)
theorem fmod100 {Z : zZ} {S : zS} {e : Nat} (he : e < 2 ^ 31) {Qp : Int32 → zS → Prop} (k : Qp (nI (e % 100)) S) : w_J9_floorMod_7cf53 Z (nI e) 100 S Qp := by
  have h100 : (100 : Int32) = nI 100 := by decide
  unfold w_J9_floorMod_7cf53
  refine ⟨by decide, fun y2 e2 => ?_⟩
  have e3 : y2 = nI (e % 100) := by rw [e2, h100]; exact pk_rem he (by omega) (by omega)
  have hx : e ^^^ 100 < 2 ^ 31 := Nat.xor_lt_two_pow he (by omega)
  rw [h100, nx_xor]
  exact ⟨fun _ => e3 ▸ k, fun q => absurd (nI_pos' hx) q⟩
theorem c_add (H : zCV Z S0 ad n w S (gN G i N)) (hi : i < n) (hB : N.1 10 0 < 2 ^ 30) {p0 p1 p2 p3 p5 : Int32} {p4 : Int64} {Qp : zS → Prop} (k : ∀ S', zCV Z S0 ad n w S' (gN G i (nTell N p0.toInt64 p1.toInt64 p2.toInt64 p3.toInt64 p4 p5.toInt64)) → Qp S') : w_X0_add Z (ad 9 i) p0 p1 p2 p3 p4 p5 S Qp := by
  obtain ⟨-, -, -, ⟨d1, d2, d3, d4⟩, -⟩ := zCV_nd H hi
  have e0 : zI S (ad 9 i) 1 = nI (N.1 10 0) := cv_I H hi 10 (by omega) (by omega)
  unfold w_X0_add
  refine ⟨d1, ?_⟩
  rw [e0]
  refine fmod100 (by omega) ?_
  have hq : N.1 10 0 % 100 < 100 := Nat.mod_lt _ (by omega)
  generalize hqq : N.1 10 0 % 100 = q at hq
  intro y4 e4
  have e4 : y4 = nI (q * 6) := by rw [e4]; exact pk_mul q 6
  subst e4
  have hin : ∀ j, j < 6 → vp_in (nI (q * 6 + j)) (zN Z (ad 10 i)) := fun j hj => by rw [d4]; exact vp_in_nI (by omega) (by omega)
  have a1 : ∀ j : Nat, nI (q * 6) + nI j = nI (q * 6 + j) := fun j => nI_add _ _
  have c1 : ∀ j, j < 6 → (nI (q * 6 + j)).toNatClampNeg = q * 6 + j := fun j hj => nI_clamp (by omega)
  refine ⟨ad 10 i, d2, d3, hin 0 (by omega), fun S9 e9 => ⟨a1 1 ▸ hin 1 (by omega), fun S11 e11 => ⟨a1 2 ▸ hin 2 (by omega), fun S13 e13 => ⟨a1 3 ▸ hin 3 (by omega), fun S15 e15 => ⟨a1 4 ▸ hin 4 (by omega), fun S17 e17 => ⟨a1 5 ▸ hin 5 (by omega), fun S19 e19 S20 e20 => ?_⟩⟩⟩⟩⟩⟩
  have f9 : S9 = zsJ S (ad 10 i) (q * 6) p0.toInt64 := by rw [e9]; exact congrArg (fun z => zsJ S (ad 10 i) z p0.toInt64) (c1 0 (by omega))
  have f11 : S11 = zsJ S9 (ad 10 i) (q * 6 + 1) p1.toInt64 := by rw [e11]; exact congrArg (fun z => zsJ S9 (ad 10 i) z p1.toInt64) (c1 1 (by omega) ▸ congrArg _ (a1 1))
  have f13 : S13 = zsJ S11 (ad 10 i) (q * 6 + 2) p2.toInt64 := by rw [e13]; exact congrArg (fun z => zsJ S11 (ad 10 i) z p2.toInt64) (c1 2 (by omega) ▸ congrArg _ (a1 2))
  have f15 : S15 = zsJ S13 (ad 10 i) (q * 6 + 3) p3.toInt64 := by rw [e15]; exact congrArg (fun z => zsJ S13 (ad 10 i) z p3.toInt64) (c1 3 (by omega) ▸ congrArg _ (a1 3))
  have f17 : S17 = zsJ S15 (ad 10 i) (q * 6 + 4) p4 := by rw [e17]; exact congrArg (fun z => zsJ S15 (ad 10 i) z p4) (c1 4 (by omega) ▸ congrArg _ (a1 4))
  have f19 : S19 = zsJ S17 (ad 10 i) (q * 6 + 5) p5.toInt64 := by rw [e19]; exact congrArg (fun z => zsJ S17 (ad 10 i) z p5.toInt64) (c1 5 (by omega) ▸ congrArg _ (a1 5))
  have H9 := cn_J H hi 2 (q * 6) 10 (q * 6) p0.toInt64 (by omega)
  rw [← f9] at H9
  have H11 := cn_J H9 hi 2 (q * 6 + 1) 10 (q * 6 + 1) p1.toInt64 (by omega)
  rw [← f11] at H11
  have H13 := cn_J H11 hi 2 (q * 6 + 2) 10 (q * 6 + 2) p2.toInt64 (by omega)
  rw [← f13] at H13
  have H15 := cn_J H13 hi 2 (q * 6 + 3) 10 (q * 6 + 3) p3.toInt64 (by omega)
  rw [← f15] at H15
  have H17 := cn_J H15 hi 2 (q * 6 + 4) 10 (q * 6 + 4) p4 (by omega)
  rw [← f17] at H17
  have H19 := cn_J H17 hi 2 (q * 6 + 5) 10 (q * 6 + 5) p5.toInt64 (by omega)
  rw [← f19] at H19
  have H20 := cn_I H19 hi 10 (by omega) (by omega) (v := N.1 10 0 + 1) (by omega)
  have e21 : zI S19 (ad 9 i) 1 = nI (N.1 10 0) := cv_I H19 hi 10 (by omega) (by omega)
  have e20' : S20 = zsI S19 (ad (cT 10) i) (cS 10) (nI (N.1 10 0 + 1)) := by rw [e20, e21]; exact congrArg (zsI S19 (ad 9 i) 1) (nI_1 _)
  rw [← e20'] at H20
  refine k S20 ?_
  unfold nTell
  rw [hqq]
  exact H20
end
