/-! the class's methods of one node: record N of node i -/
section
variable {Z : zZ} {S0 S : zS} {ad : Nat → Nat → Nat} {n w : Nat} {G : gT} {i : Nat} {N : nT}
theorem cn_0 (H : zCV Z S0 ad n w S G) : zCV Z S0 ad n w S (gN G i (G.1 i)) := by rw [gN_self]; exact H
theorem cn_I (H : zCV Z S0 ad n w S (gN G i N)) (hi : i < n) (f : Nat) (hf : f < 12) (h2 : f ≠ 2) {v : Nat} (hp : f ≠ 11 ∨ v ≤ N.1 11 0) : zCV Z S0 ad n w (zsI S (ad (cT f) i) (cS f) (nI v)) (gN G i (nsI N f 0 v)) := by
  have h := cs_I H hi f hf h2 (v := v) (by rw [g1_Ns]; exact hp)
  rw [gN_gN, g1_Ns] at h
  exact h
theorem cn_J (H : zCV Z S0 ad n w S (gN G i N)) (hi : i < n) (f k t : Nat) (sl : Nat) (v : Int64) (hf : (f = 0 ∧ k = 0 ∧ t = 6 ∧ sl = 3) ∨ (f = 1 ∧ t = 7 ∧ sl = k) ∨ (f = 2 ∧ t = 10 ∧ sl = k)) : zCV Z S0 ad n w (zsJ S (ad t i) sl v) (gN G i (nsJ N f k v)) := by
  have h := cs_J H hi f k t sl v hf
  rw [gN_gN, g1_Ns] at h
  exact h
theorem cn_H (H : zCV Z S0 ad n w S (gN G i N)) {p : Nat} (hi : i < n) (v : Nat) (o : Option Nat) (h0 : v = 0 → o = none) (h1 : v ≠ 0 → ∃ b, o = some b ∧ zMg Z S b ((G.2 (N.1 2 0)).1 6 p) ((G.2 (N.1 2 0)).1 7 p) ((G.2 (N.1 2 0)).2 6 p) ((G.2 (N.1 2 0)).1 8 p)) : zCV Z S0 ad n w (zsR S (ad 11 i) p o) (gN G i (nsI N 16 p v)) := by
  have h := cs_H H (p := p) hi v o h0 (by rw [g1_Ns, g2_N]; exact h1)
  rw [gN_gN, g1_Ns] at h
  exact h
theorem cn_K (H : zCV Z S0 ad n w S (gN G i N)) {p : Nat} (hi : i < n) (v key : Nat) (x : Int64) (o : Option Nat) (h0 : v = 0 → o = none) (h1 : v ≠ 0 → ∃ b, o = some b ∧ zMk1 Z S b key x) : zCV Z S0 ad n w (zsR S (ad 8 i) p o) (gN G i (nsJ (nsI (nsI N 14 p v) 15 p key) 14 p x)) := by
  have h := cs_K H (p := p) hi v key x o h0 h1
  rw [gN_gN, g1_Ns] at h
  exact h
/-- what node i's cells say -/
theorem cv_n (H : zCV Z S0 ad n w S (gN G i N)) (hi : i < n) : zCn Z S ad i N (G.2 (N.1 2 0)) ∧ zri n (N.1 2 0) := by
  have h := H.2.2.1 i hi
  rw [g1_Ns, g2_N] at h
  exact h
theorem cv_I (H : zCV Z S0 ad n w S (gN G i N)) (hi : i < n) (f : Nat) (hf : f < 12) (h2 : f ≠ 2) : zI S (ad (cT f) i) (cS f) = nI (N.1 f 0) := (cv_n H hi).1.1.2 f hf h2
theorem cv_num (H : zCV Z S0 ad n w S (gN G i N)) (hi : i < n) : zI S (ad 3 i) 0 = nI i := (cv_n H hi).1.1.1
theorem cv_ring (H : zCV Z S0 ad n w S (gN G i N)) (hi : i < n) : zR S (ad 3 i) 7 = some (ad 12 (N.1 2 0)) := (cv_n H hi).1.2.1
theorem cv_R (H : zCV Z S0 ad n w S G) {r : Nat} (hr : zri n r) : zCr S ad r (G.2 r) := H.2.2.2.1 r hr
/-! the log -/
def nTell (N : nT) (a b c d e f : Int64) : nT := nsI (nsJ (nsJ (nsJ (nsJ (nsJ (nsJ N 2 (N.1 10 0 % 100 * 6) a) 2 (N.1 10 0 % 100 * 6 + 1) b) 2 (N.1 10 0 % 100 * 6 + 2) c) 2 (N.1 10 0 % 100 * 6 + 3) d) 2 (N.1 10 0 % 100 * 6 + 4) e) 2 (N.1 10 0 % 100 * 6 + 5) f) 10 0 (N.1 10 0 + 1)
theorem fmod100 {Z : zZ} {S : zS} {e : Nat} (he : e < 2 ^ 31) {Qp : Int32 → zS → Prop} (k : Qp (nI (e % 100)) S) : w_J9_floorMod_7cf53 Z (nI e) 100 S Qp := by
  have h100 : (100 : Int32) = nI 100 := by decide
  unfold w_J9_floorMod_7cf53
  refine ⟨by decide, fun y2 e2 => ?_⟩
  have e3 : y2 = nI (e % 100) := by rw [e2, h100]; exact pk_rem he (by omega) (by omega)
  have hx : e ^^^ 100 < 2 ^ 31 := Nat.xor_lt_two_pow he (by omega)
  rw [h100, nx_xor]
  exact ⟨fun _ => e3 ▸ k, fun q => absurd (nI_pos' hx) q⟩
theorem c_add (H : zCV Z S0 ad n w S (gN G i N)) (hi : i < n) (hB : N.1 10 0 < 2 ^ 30) {p0 p1 p2 p3 p5 : Int32} {p4 : Int64} {Qp : zS → Prop} (k : ∀ S', zCV Z S0 ad n w S' (gN G i (nTell N p0.toInt64 p1.toInt64 p2.toInt64 p3.toInt64 p4 p5.toInt64)) → Qp S') : w_X0_add Z (ad 9 i) p0 p1 p2 p3 p4 p5 S Qp := by
  obtain ⟨-, -, -, ⟨d1, d2, d3, d4⟩, -⟩ := zCV_nd H hi
  have e0 : zI S (ad 9 i) 1 = nI (N.1 10 0) := cv_I H hi 10 (by omega) (by omega)
  unfold w_X0_add
  refine ⟨d1, ?_⟩
  rw [e0]
  refine fmod100 (by omega) ?_
  have hq : N.1 10 0 % 100 < 100 := Nat.mod_lt _ (by omega)
  generalize hqq : N.1 10 0 % 100 = q at hq
  intro y4 e4
  have e4 : y4 = nI (q * 6) := by rw [e4]; exact pk_mul q 6
  subst e4
  have hin : ∀ j, j < 6 → vp_in (nI (q * 6 + j)) (zN Z (ad 10 i)) := fun j hj => by rw [d4]; exact vp_in_nI (by omega) (by omega)
  have a1 : ∀ j : Nat, nI (q * 6) + nI j = nI (q * 6 + j) := fun j => nI_add _ _
  have c1 : ∀ j, j < 6 → (nI (q * 6 + j)).toNatClampNeg = q * 6 + j := fun j hj => nI_clamp (by omega)
  refine ⟨ad 10 i, d2, d3, hin 0 (by omega), fun S9 e9 => ⟨a1 1 ▸ hin 1 (by omega), fun S11 e11 => ⟨a1 2 ▸ hin 2 (by omega), fun S13 e13 => ⟨a1 3 ▸ hin 3 (by omega), fun S15 e15 => ⟨a1 4 ▸ hin 4 (by omega), fun S17 e17 => ⟨a1 5 ▸ hin 5 (by omega), fun S19 e19 S20 e20 => ?_⟩⟩⟩⟩⟩⟩
  have f9 : S9 = zsJ S (ad 10 i) (q * 6) p0.toInt64 := by rw [e9]; exact congrArg (fun z => zsJ S (ad 10 i) z p0.toInt64) (c1 0 (by omega))
  have f11 : S11 = zsJ S9 (ad 10 i) (q * 6 + 1) p1.toInt64 := by rw [e11]; exact congrArg (fun z => zsJ S9 (ad 10 i) z p1.toInt64) (c1 1 (by omega) ▸ congrArg _ (a1 1))
  have f13 : S13 = zsJ S11 (ad 10 i) (q * 6 + 2) p2.toInt64 := by rw [e13]; exact congrArg (fun z => zsJ S11 (ad 10 i) z p2.toInt64) (c1 2 (by omega) ▸ congrArg _ (a1 2))
  have f15 : S15 = zsJ S13 (ad 10 i) (q * 6 + 3) p3.toInt64 := by rw [e15]; exact congrArg (fun z => zsJ S13 (ad 10 i) z p3.toInt64) (c1 3 (by omega) ▸ congrArg _ (a1 3))
  have f17 : S17 = zsJ S15 (ad 10 i) (q * 6 + 4) p4 := by rw [e17]; exact congrArg (fun z => zsJ S15 (ad 10 i) z p4) (c1 4 (by omega) ▸ congrArg _ (a1 4))
  have f19 : S19 = zsJ S17 (ad 10 i) (q * 6 + 5) p5.toInt64 := by rw [e19]; exact congrArg (fun z => zsJ S17 (ad 10 i) z p5.toInt64) (c1 5 (by omega) ▸ congrArg _ (a1 5))
  have H9 := cn_J H hi 2 (q * 6) 10 (q * 6) p0.toInt64 (by omega)
  rw [← f9] at H9
  have H11 := cn_J H9 hi 2 (q * 6 + 1) 10 (q * 6 + 1) p1.toInt64 (by omega)
  rw [← f11] at H11
  have H13 := cn_J H11 hi 2 (q * 6 + 2) 10 (q * 6 + 2) p2.toInt64 (by omega)
  rw [← f13] at H13
  have H15 := cn_J H13 hi 2 (q * 6 + 3) 10 (q * 6 + 3) p3.toInt64 (by omega)
  rw [← f15] at H15
  have H17 := cn_J H15 hi 2 (q * 6 + 4) 10 (q * 6 + 4) p4 (by omega)
  rw [← f17] at H17
  have H19 := cn_J H17 hi 2 (q * 6 + 5) 10 (q * 6 + 5) p5.toInt64 (by omega)
  rw [← f19] at H19
  have H20 := cn_I H19 hi 10 (by omega) (by omega) (v := N.1 10 0 + 1) (by omega)
  have e21 : zI S19 (ad 9 i) 1 = nI (N.1 10 0) := cv_I H19 hi 10 (by omega) (by omega)
  have e20' : S20 = zsI S19 (ad (cT 10) i) (cS 10) (nI (N.1 10 0 + 1)) := by rw [e20, e21]; exact congrArg (zsI S19 (ad 9 i) 1) (nI_1 _)
  rw [← e20'] at H20
  refine k S20 ?_
  unfold nTell
  rw [hqq]
  exact H20
/-! a node applies, tells, has -/
def nApply (N : nT) (p key : Nat) (v : Int64) : nT := nsI (nsJ (nsI (nsJ N 1 key v) 8 0 (N.1 8 0 + 1)) 0 0 (N.2 0 0 * 31 + lN (key * 17) + v)) 9 0 p
def nTellM (N : nT) (num p snd key : Nat) (v : Int64) : nT := nTell (nsI N 6 0 p) (lN 1) (lN p) (lN snd) (lN key) v (lN num)
/-- is the node of the primary ring -/
def prim (N R : nT) : Bool := decide (0 < R.1 0 0) && decide (R.1 0 0 = N.1 4 0)
theorem zAt_mv {Z : zZ} {S0 S S' : zS} {ad : Nat → Nat → Nat} {n w : Nat} {G G' : gT} (H : zCV Z S0 ad n w S G) (H' : zCV Z S0 ad n w S' G') {b : Nat} (hb : zk Z b 1) : zAt S S' b := by
  have h := H.2.2.2.2 b (fun t i => zCV_nm H t i b hb)
  have h' := H'.2.2.2.2 b (fun t i => zCV_nm H t i b hb)
  exact ⟨h'.1.trans h.1.symm, h'.2.1.trans h.2.1.symm, h'.2.2.trans h.2.2.symm⟩
theorem zMg_mv {Z : zZ} {S0 S S' : zS} {ad : Nat → Nat → Nat} {n w : Nat} {G G' : gT} (H : zCV Z S0 ad n w S G) (H' : zCV Z S0 ad n w S' G') {b x y z : Nat} {v : Int64} (hm : zMg Z S b x y v z) : zMg Z S' b x y v z := zMg_at (zAt_mv H H' hm.1) hm
theorem key17 {key : Nat} (h : key < 16) : ((nI key * 17 : Int32)).toInt64 = lN (key * 17) := by
  have e : (nI key * 17 : Int32) = nI (key * 17) := pk_mul key 17
  rw [e]
  exact nI_l (by omega)
theorem c_apply (H : zCV Z S0 ad n w S (gN G i N)) (hi : i < n) {b p key : Nat} {v : Int64} (hk : key < 16) (hB : N.1 8 0 < 2 ^ 30) (hm : zMk1 Z S b key v) {Qp : zS → Prop} (k : ∀ S', zCV Z S0 ad n w S' (gN G i (nApply N p key v)) → Qp S') : w_X4_apply Z (ad 6 i) (nI p) b S Qp := by
  obtain ⟨-, -, ⟨d1, d2, d3, d4, d5, d6, d7⟩, -, -⟩ := zCV_nd H hi
  unfold w_X4_apply
  have hb : ∀ t, b ≠ ad t i := fun t => zCV_nm H t i b hm.1
  refine ⟨d1, ad 7 i, d2, hm.1, d4, ?_, fun S7 e7 S8 e8 S9 e9 S10 e10 => ?_⟩
  · rw [hm.2.1, d5]; exact vp_in_nI hk (by omega)
  rw [hm.2.1, hm.2.2, nI_clamp (by omega)] at e7
  have H7 := cn_J H hi 1 key 7 key v (by omega)
  rw [← e7] at H7
  have m7 : zMk1 Z S7 b key v := zMk1_at (by rw [e7]; exact zAt_sJ S _ _ (hb 7)) hm
  have a8 : zI S7 (ad 6 i) 2 = nI (N.1 8 0) := cv_I H7 hi 8 (by omega) (by omega)
  have e8' : S8 = zsI S7 (ad (cT 8) i) (cS 8) (nI (N.1 8 0 + 1)) := by rw [e8, a8]; exact congrArg (zsI S7 (ad 6 i) 2) (nI_1 _)
  have H8 := cn_I H7 hi 8 (by omega) (by omega) (v := N.1 8 0 + 1) (by omega)
  rw [← e8'] at H8
  have m8 : zMk1 Z S8 b key v := zMk1_at (by rw [e8]; exact zAt_sI S7 _ _ (hb 6)) m7
  have a9 : zJ S8 (ad 6 i) 3 = N.2 0 0 := (cv_n H8 hi).1.2.2.1.1.trans (by rw [n2_sI]; exact n2_ne (f := 1) (f' := 0) N key v 0 (by omega))
  rw [a9, m8.2.1, m8.2.2, key17 hk] at e9
  have H9 := cn_J H8 hi 0 0 6 3 (N.2 0 0 * 31 + lN (key * 17) + v) (by omega)
  rw [← e9] at H9
  have H10 := cn_I H9 hi 9 (by omega) (by omega) (v := p) (by omega)
  have e10' : S10 = zsI S9 (ad (cT 9) i) (cS 9) (nI p) := e10
  rw [← e10'] at H10
  exact k S10 H10
theorem c_tell (H : zCV Z S0 ad n w S (gN G i N)) (hi : i < n) {b p snd key safe : Nat} {v : Int64} (hp : p < 2 ^ 30) (hs : snd < 2 ^ 30) (hk : key < 2 ^ 30) (hR : (G.2 (N.1 2 0)).1 0 0 < 2 ^ 30) (hB : N.1 10 0 < 2 ^ 30) (hm : zMg Z S b snd key v safe) {Qp : zS → Prop} (k : ∀ S', zCV Z S0 ad n w S' (gN G i (nTellM N ((G.2 (N.1 2 0)).1 0 0) p snd key v)) → Qp S') : w_X2_tell Z (ad 3 i) (nI p) b S (fun S' => Qp S') := by
  obtain ⟨⟨d1, d2, d3, d4, d5⟩, -, -, ⟨f1, f2⟩, -⟩ := zCV_nd H hi
  unfold w_X2_tell
  refine ⟨d1, fun S2 e2 => ?_⟩
  have H2 := cn_I H hi 6 (by omega) (by omega) (v := p) (by omega)
  have e2' : S2 = zsI S (ad (cT 6) i) (cS 6) (nI p) := e2
  rw [← e2'] at H2
  have hr : zri n (N.1 2 0) := (cv_n H hi).2
  have m2 : zMg Z S2 b snd key v safe := zMg_mv H H2 hm
  have g2 : zI S2 (ad 12 (N.1 2 0)) 2 = nI ((G.2 (N.1 2 0)).1 0 0) := (cv_R H2 hr).1.1
  have r2 := cv_ring H2 hi
  rw [n1_ne _ _ _ _ (by omega)] at r2
  refine ⟨ad 9 i, d4, m2.1, ad 12 (N.1 2 0), r2, (zCV_rg H hr).1, f1, ?_⟩
  rw [m2.2.1, m2.2.2.1, m2.2.2.2.1, g2]
  refine c_add H2 hi ?_ (fun S' H' => k S' ?_)
  · rw [n1_ne _ _ _ _ (by omega)]; exact hB
  · rw [nI_l (by omega), nI_l (by omega), nI_l (by omega), nI_l (by omega)] at H'
    exact H'
theorem c_prim (H : zCV Z S0 ad n w S (gN G i N)) (hi : i < n) (h1 : (G.2 (N.1 2 0)).1 0 0 < 2 ^ 30) (h2 : N.1 4 0 < 2 ^ 30) {Qp : Int32 → zS → Prop} (k : Qp (if prim N (G.2 (N.1 2 0)) then 1 else 0) S) : w_X2_isOfPrimary Z (ad 3 i) S Qp := by
  obtain ⟨⟨d1, d2, d3, d4, d5⟩, -, -, -, -⟩ := zCV_nd H hi
  have hr : zri n (N.1 2 0) := (cv_n H hi).2
  have g2 : zI S (ad 12 (N.1 2 0)) 2 = nI ((G.2 (N.1 2 0)).1 0 0) := (cv_R H hr).1.1
  have g3 : zI S (ad 3 i) 9 = nI (N.1 4 0) := cv_I H hi 4 (by omega) (by omega)
  unfold w_X2_isOfPrimary
  refine ⟨d1, ad 12 (N.1 2 0), cv_ring H hi, (zCV_rg H hr).1, ?_⟩
  rw [g2, g3]
  have e0 : (nI ((G.2 (N.1 2 0)).1 0 0) ≤ 0) ↔ (G.2 (N.1 2 0)).1 0 0 ≤ 0 := nI_leI (by omega) (by omega : 0 < 2 ^ 31)
  have e1 : (nI ((G.2 (N.1 2 0)).1 0 0) = nI (N.1 4 0)) ↔ (G.2 (N.1 2 0)).1 0 0 = N.1 4 0 := nI_eq (by omega) (by omega)
  rw [e0, e1]
  refine ⟨fun q => ?_, fun q => ⟨fun q2 => ?_, fun q2 => ?_⟩⟩
  · have : prim N (G.2 (N.1 2 0)) = false := by unfold prim; simp; omega
    rw [this] at k; exact k
  · have : prim N (G.2 (N.1 2 0)) = false := by unfold prim; simp; omega
    rw [this] at k; exact k
  · have : prim N (G.2 (N.1 2 0)) = true := by unfold prim; simp; omega
    rw [this] at k; exact k
/-- how many places from 1 on it has without a gap -/
def fulf (N : nT) : Nat → Nat
  | 0 => 100
  | k + 1 => if N.1 16 (100 - k) = 0 then 99 - k else fulf N k
theorem fulf_le (N : nT) : ∀ k, fulf N k ≤ 100 := by
  intro k
  induction k with
  | zero => exact Nat.le_refl _
  | succ k ih => unfold fulf; split <;> omega
theorem c_full (H : zCV Z S0 ad n w S (gN G i N)) (hi : i < n) {Qp : Int32 → zS → Prop} (k : Qp (nI (fulf N 100)) S) : w_X2_full Z (ad 3 i) S Qp := by
  obtain ⟨⟨d1, d2, d3, d4, d5⟩, -, -, -, ⟨f1, f2⟩⟩ := zCV_nd H hi
  unfold w_X2_full
  refine zlp2 (fun x1 S' => S' = S ∧ ∃ k, k ≤ 100 ∧ x1 = nI (100 - k) ∧ fulf N k = fulf N 100) (fun x1 _ => 101 - x1.toNatClampNeg) (fun rec x1 S' hI hrec => ?_) 0 S ⟨rfl, 100, by omega, rfl, rfl⟩
  obtain ⟨rfl, k', hk, rfl, hf⟩ := hI
  unfold wb_X2_full_2
  have hle : (100 : Int32) ≤ nI (100 - k') ↔ 100 ≤ 100 - k' := nI_leI (a := 100) (by omega) (by omega)
  rw [hle]
  refine ⟨fun q => ?_, fun q => ?_⟩
  · have : k' = 0 := by omega
    subst this
    rw [← hf] at k
    exact k
  · obtain ⟨j, rfl⟩ : ∃ j, k' = j + 1 := ⟨k' - 1, by omega⟩
    have e1 : nI (100 - (j + 1)) + 1 = nI (100 - j) := by rw [nI_1]; congr 1; omega
    rw [e1, nI_clamp (by omega)]
    refine ⟨d1, ad 11 i, d5, f1, by rw [f2]; exact vp_in_nI (by omega) (by omega), fun q2 => ?_, fun b6 q2 y8 e8 => ?_⟩
    · have h := (cv_n H hi).1.2.2.2.2.2 (100 - j) (by omega)
      have h0 : N.1 16 (100 - j) = 0 := by
        by_cases e : N.1 16 (100 - j) = 0
        · exact e
        · obtain ⟨b, b1, -⟩ := h.2 e
          rw [q2] at b1
          exact absurd b1 (by simp)
      have : fulf N (j + 1) = 99 - j := by unfold fulf; rw [if_pos h0]
      rw [← hf, this] at k
      show Qp (nI (100 - (j + 1))) S'
      rw [show 100 - (j + 1) = 99 - j by omega]
      exact k
    · have h := (cv_n H hi).1.2.2.2.2.2 (100 - j) (by omega)
      have h0 : N.1 16 (100 - j) ≠ 0 := fun e => by
        rw [h.1 e] at q2
        exact absurd q2 (by simp)
      have : fulf N (j + 1) = fulf N j := by
        show (if N.1 16 (100 - j) = 0 then 99 - j else fulf N j) = _
        rw [if_neg h0]
      subst e8
      refine hrec _ _ ⟨rfl, j, by omega, rfl, this.symm.trans hf⟩ ?_
      rw [nI_clamp (by omega), nI_clamp (by omega)]
      omega
end
