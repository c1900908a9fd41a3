/-! what the reference's constructor makes -/
def mgd (k : Nat) : Prop := k = 0 ∨ (3 ≤ k ∧ k < 36)
def mgdb (k : Nat) : Bool := decide (k = 0) || (decide (3 ≤ k) && decide (k < 36))
theorem mgdb_iff {k : Nat} : mgdb k = true ↔ mgd k := by
  unfold mgdb mgd
  simp only [Bool.or_eq_true, Bool.and_eq_true, decide_eq_true_iff]
/-- the same addresses where they are used, others beyond M -/
def arx (M : Nat) (ar : Nat → Nat) (k : Nat) : Nat := if mgdb k = true then ar k else M + k
theorem arx_u {M : Nat} {ar : Nat → Nat} {k : Nat} (h : mgd k) : arx M ar k = ar k := if_pos (mgdb_iff.mpr h)
theorem arx_n {M : Nat} {ar : Nat → Nat} {k : Nat} (h : ¬ mgd k) : arx M ar k = M + k := if_neg (fun z => h (mgdb_iff.mp z))
theorem zMs_arx {Z : zZ} {M : Nat} {ar : Nat → Nat} (h0 : zk Z (ar 0) 7) (hk : ∀ k, 3 ≤ k → k < 36 → zQ Z (ar 0) k = some (ar k) ∧ zk Z (ar k) (mkd k) ∧ zN Z (ar k) = mln k) (hi : ∀ k k', mgd k → mgd k' → ar k = ar k' → k = k') (hM : ∀ a, a ∈ zL Z → a < M) : zMs Z (arx M ar) := by
  have e0 : arx M ar 0 = ar 0 := arx_u (Or.inl rfl)
  have hb : ∀ k, mgd k → ar k < M := fun k h => by
    rcases h with rfl | h
    · exact hM _ h0.1
    · exact hM _ (hk k h.1 h.2).2.1.1
  refine ⟨by rw [e0]; exact h0, fun k h3 h36 => by rw [e0, arx_u (Or.inr ⟨h3, h36⟩)]; exact hk k h3 h36, fun k k' => ⟨fun e => ?_, fun e => by rw [e]⟩⟩
  by_cases c : mgd k
  · have h1 := hb k c
    by_cases c' : mgd k'
    · rw [arx_u c, arx_u c'] at e
      exact hi k k' c c' e
    · rw [arx_u c, arx_n c'] at e
      omega
  · by_cases c' : mgd k'
    · have h1 := hb k' c'
      rw [arx_n c, arx_u c'] at e
      omega
    · rw [arx_n c, arx_n c'] at e
      omega
section
variable {Z0 Z Z3 : zZ} {S0 S S4 : zS} {q a m b kd ln n w : Nat}
def mP (Z0 : zZ) (S0 : zS) (q a m : Nat) (Z : zZ) (S : zS) : Prop := zok Z ∧ zPm Z = q + 1 + m ∧ zX q Z0 Z S0 S ∧ (∃ Q, zOc Z S q a (rQ 7 36 Q) ∧ ∀ k, k < m → Q (k + 3) = some (zPa Z (q + 1 + k))) ∧ ∀ k, k < m → zOb Z S (q + 1 + k) (zr0 (mkd (k + 3)) (mln (k + 3)))
theorem mP_step (h : mP Z0 S0 q a m Z S) (hkd : mkd (m + 3) = kd) (hln : mln (m + 3) = ln) (hb : b ∉ zL Z) (e3 : Z3 = zalZ Z b kd ln) (e4 : S4 = zalS S b) : zk Z3 a 7 ∧ ∀ Z7, Z7 = zsQ Z3 a (m + 3) (some b) → mP Z0 S0 q a (m + 1) Z7 S4 := by
  obtain ⟨ok, hp, hx, ⟨Q, o, hQ⟩, hc⟩ := h
  obtain ⟨h1, y⟩ := sc_arr (f := m + 3) (nh := 36) (kh := 7) ok o rfl hb e3 e4
  refine ⟨h1, fun Z7 e7 => ?_⟩
  obtain ⟨c1, c2, c3, c4, c5⟩ := y Z7 e7
  have e : ∀ k, k < m → zPa Z7 (q + 1 + k) = zPa Z (q + 1 + k) := fun k hk => (c3.2 _ (by omega)).1
  refine ⟨c1, by omega, zX_tr hx c3, ⟨fun x => if x = m + 3 then some b else Q x, c5, fun k hk => ?_⟩, fun k hk => ?_⟩
  · show (if k + 3 = m + 3 then some b else Q (k + 3)) = _
    by_cases e' : k = m
    · subst e'
      rw [if_pos rfl, ← hp, c4.2]
    · rw [if_neg (by omega), e k (by omega)]
      exact hQ k (by omega)
  · by_cases e' : k = m
    · subst e'
      rw [hkd, hln, ← hp]
      exact c4.1
    · exact zOb_X c3 (hc k (by omega)) (by omega)
theorem zOb_r {Z : zZ} {S : zS} {p k n : Nat} (o : zOb Z S p (zr0 k n)) : (∀ j, zI S (zPa Z p) j = 0) ∧ ∀ j, zJ S (zPa Z p) j = 0 := ⟨fun j => (zOb_I o j).trans rfl, fun j => (zOb_J o j).trans rfl⟩
/-- the reference's cells, once made -/
theorem mP_end (h : mP Z0 S0 q a 33 Z S) : ∃ ar, ar 0 = a ∧ (∀ k, 3 ≤ k → k < 36 → ar k = zPa Z (q + 1 + (k - 3))) ∧ zMs Z ar ∧ (∀ c, mgd c → (∀ j, zI S (ar c) j = 0) ∧ ∀ j, zJ S (ar c) j = 0) ∧ ∀ c, ¬ mgd c → ar c ∉ zL Z := by
  obtain ⟨M, hM⟩ := lst_bd (zL Z)
  obtain ⟨ok, hp, hx, ⟨Q, o, hQ⟩, hc⟩ := h
  have e0 : (fun k => if k = 0 then a else zPa Z (q + 1 + (k - 3))) 0 = a := if_pos rfl
  have eS : ∀ k, 3 ≤ k → (fun k => if k = 0 then a else zPa Z (q + 1 + (k - 3))) k = zPa Z (q + 1 + (k - 3)) := fun k hk => if_neg (by omega)
  generalize (fun k => if k = 0 then a else zPa Z (q + 1 + (k - 3))) = ar at e0 eS
  have hk : ∀ k, 3 ≤ k → k < 36 → zQ Z (ar 0) k = some (ar k) ∧ zk Z (ar k) (mkd k) ∧ zN Z (ar k) = mln k := fun k h3 h36 => by
    have z := zOb_k (hc (k - 3) (by omega)) rfl
    have e3 : k - 3 + 3 = k := by omega
    rw [e3] at z
    rw [e0, eS k h3]
    refine ⟨?_, z⟩
    have z2 := hQ (k - 3) (by omega)
    rw [e3] at z2
    exact (sc_q o k).trans z2
  have hpos : ∀ k, mgd k → ∃ p, p < zPm Z ∧ ar k = zPa Z p ∧ (k = 0 → p = q) ∧ (k ≠ 0 → p = q + 1 + (k - 3)) := fun k h => by
    by_cases c : k = 0
    · subst c
      exact ⟨q, by omega, by rw [e0]; exact o.2.symm, fun _ => rfl, fun z => absurd rfl z⟩
    · have h3 : 3 ≤ k ∧ k < 36 := by rcases h with z | z <;> omega
      exact ⟨_, by omega, eS k h3.1, fun z => absurd z c, fun _ => rfl⟩
  have hi : ∀ k k', mgd k → mgd k' → ar k = ar k' → k = k' := fun k k' g g' e => by
    obtain ⟨p, h1, h2, h3, h4⟩ := hpos k g
    obtain ⟨p', h1', h2', h3', h4'⟩ := hpos k' g'
    have z := ok p p' h1 h1' (by rw [← h2, ← h2', e])
    have d : k = 0 ∨ k ≠ 0 := by omega
    have d' : k' = 0 ∨ k' ≠ 0 := by omega
    rcases d with d | d <;> rcases d' with d' | d'
    · omega
    · have := h3 d; have := h4' d'; omega
    · have := h4 d; have := h3' d'; omega
    · have := h4 d; have := h4' d'
      rcases g with g | g <;> rcases g' with g' | g' <;> omega
  refine ⟨arx M ar, by rw [arx_u (Or.inl rfl)]; exact e0, fun k h3 h36 => by rw [arx_u (Or.inr ⟨h3, h36⟩)]; exact eS k h3, zMs_arx (by rw [e0]; exact sc_k o rfl) hk hi hM, fun c hc' => ?_, fun c hc' hin => ?_⟩
  · rw [arx_u hc']
    by_cases d : c = 0
    · subst d
      rw [e0]
      exact ⟨fun j => (sc_i o j).trans rfl, fun j => (sc_j o j).trans rfl⟩
    · have h3 : 3 ≤ c ∧ c < 36 := by rcases hc' with z | z <;> omega
      rw [eS c h3.1]
      exact zOb_r (hc (c - 3) (by omega))
  · have := hM _ hin
    rw [arx_n hc'] at this
    omega
/-- what the constructor then writes -/
def mT (n w x : Nat) (A : Nat → Nat → Int32) (B : Nat → Nat → Int64) : Prop := (A 0 0 = 0 ∧ A 0 1 = nI n ∧ A 0 2 = nI w) ∧ (∀ j, j < x → (j < n → A 3 j = 1) ∧ A 5 j = -1 ∧ A 11 j = nI (2 ^ n - 1)) ∧ (∀ c, mgd c → c ≠ 0 → c ≠ 3 → c ≠ 5 → c ≠ 11 → ∀ j, A c j = 0) ∧ ∀ c, mgd c → ∀ j, B c j = 0
theorem mT_end {A : Nat → Nat → Int32} {B : Nat → Nat → Int64} (hn : 2 ≤ n ∧ n ≤ 8) (hw : w ≤ 8) (h : mT n w 8 A B) : mC n w (fun _ => 0) uZ A B (G0 n) := by
  obtain ⟨⟨a0, a1, a2⟩, h2, h3, h4⟩ := h
  have g : ∀ c, 3 ≤ c → c < 36 → mgd c := fun c x y => Or.inr ⟨x, y⟩
  have z : ∀ f x, f ≠ 0 → f ≠ 2 → f ≠ 5 → 0 = nI ((N0 n).1 f x) := fun f x y0 y2 y5 => by rw [N0_z n x y0 y2 y5]; rfl
  refine ⟨⟨⟨a1, a2, hn.1, hn.2, hw⟩, a0⟩, fun j hj => ⟨⟨fun f hf hf2 _ _ => ?_, ⟨h4 9 (g 9 (by omega) (by omega)) j, fun k _ => h4 7 (g 7 (by omega) (by omega)) _, fun q _ => h4 23 (g 23 (by omega) (by omega)) _⟩, fun k hk => ?_, fun p _ => ⟨(h3 19 (g 19 (by omega) (by omega)) (by omega) (by omega) (by omega) (by omega) _).trans (z 14 p (by omega) (by omega) (by omega)), (h3 20 (g 20 (by omega) (by omega)) (by omega) (by omega) (by omega) (by omega) _).trans (z 15 p (by omega) (by omega) (by omega)), h4 21 (g 21 (by omega) (by omega)) _⟩⟩, ?_, fun h8 => absurd (N0_2 n) h8, fun h8 => absurd (N0_2 n) h8⟩, fun i j hi hj h8 => absurd (N0_2 n) h8⟩
  · obtain ⟨b3, -, b11⟩ := h2 j (by omega)
    have hc : f = 0 ∨ f = 1 ∨ f = 3 ∨ f = 4 ∨ f = 5 ∨ f = 6 ∨ f = 7 ∨ f = 8 ∨ f = 9 ∨ f = 10 ∨ f = 11 := by omega
    rcases hc with rfl | rfl | rfl | rfl | rfl | rfl | rfl | rfl | rfl | rfl | rfl
    · show A 3 j = nI ((N0 n).1 0 0)
      rw [N0_0]; exact b3 hj
    · show A 4 j = nI ((N0 n).1 1 0)
      exact (h3 4 (g 4 (by omega) (by omega)) (by omega) (by omega) (by omega) (by omega) j).trans (z 1 0 (by omega) (by omega) (by omega))
    · show A 6 j = nI ((N0 n).1 3 0)
      exact (h3 6 (g 6 (by omega) (by omega)) (by omega) (by omega) (by omega) (by omega) j).trans (z 3 0 (by omega) (by omega) (by omega))
    · show A 10 j = nI ((N0 n).1 4 0)
      exact (h3 10 (g 10 (by omega) (by omega)) (by omega) (by omega) (by omega) (by omega) j).trans (z 4 0 (by omega) (by omega) (by omega))
    · show A 11 j = nI ((N0 n).1 5 0)
      rw [N0_5]; exact b11
    · show A 16 j = nI ((N0 n).1 6 0)
      exact (h3 16 (g 16 (by omega) (by omega)) (by omega) (by omega) (by omega) (by omega) j).trans (z 6 0 (by omega) (by omega) (by omega))
    · show A 17 j = nI ((N0 n).1 7 0)
      exact (h3 17 (g 17 (by omega) (by omega)) (by omega) (by omega) (by omega) (by omega) j).trans (z 7 0 (by omega) (by omega) (by omega))
    · show A 8 j = nI ((N0 n).1 8 0)
      exact (h3 8 (g 8 (by omega) (by omega)) (by omega) (by omega) (by omega) (by omega) j).trans (z 8 0 (by omega) (by omega) (by omega))
    · show A 22 j = nI ((N0 n).1 9 0)
      exact (h3 22 (g 22 (by omega) (by omega)) (by omega) (by omega) (by omega) (by omega) j).trans (z 9 0 (by omega) (by omega) (by omega))
    · show A 18 j = nI ((N0 n).1 10 0)
      exact (h3 18 (g 18 (by omega) (by omega)) (by omega) (by omega) (by omega) (by omega) j).trans (z 10 0 (by omega) (by omega) (by omega))
    · show A 12 j = nI ((N0 n).1 11 0)
      exact (h3 12 (g 12 (by omega) (by omega)) (by omega) (by omega) (by omega) (by omega) j).trans (z 11 0 (by omega) (by omega) (by omega))
  · have hk : k < (N0 n).1 11 0 := hk
    rw [N0_z n 0 (by omega) (by omega) (by omega)] at hk
    exact absurd hk (Nat.not_lt_zero k)
  · unfold mNr
    exact (h2 j (by omega)).2.1.trans (if_pos (N0_2 n)).symm
theorem mT_step {A : Nat → Nat → Int32} {B : Nat → Nat → Int64} {x : Nat} {v al : Int32} (h : mT n w x A B) (hv : x < n → v = 1) (ha : al = nI (2 ^ n - 1)) : mT n w (x + 1) (zu (zu (zu A 3 x v) 5 x (-1)) 11 x al) B := by
  obtain ⟨⟨a0, a1, a2⟩, h2, h3, h4⟩ := h
  have e : ∀ c, c ≠ 3 → c ≠ 5 → c ≠ 11 → zu (zu (zu A 3 x v) 5 x (-1)) 11 x al c = A c := fun c h3 h5 h11 => by rw [zu_ne _ _ _ _ _ h11, zu_ne _ _ _ _ _ h5, zu_ne _ _ _ _ _ h3]
  have e3 : zu (zu (zu A 3 x v) 5 x (-1)) 11 x al 3 = zu A 3 x v 3 := by rw [zu_ne _ _ _ _ _ (by omega : (3 : Nat) ≠ 11), zu_ne _ _ _ _ _ (by omega : (3 : Nat) ≠ 5)]
  have e5 : zu (zu (zu A 3 x v) 5 x (-1)) 11 x al 5 = zu A 5 x (-1) 5 := by
    rw [zu_ne _ _ _ _ _ (by omega : (5 : Nat) ≠ 11)]
    funext j
    rw [zu_at, zu_at, zu_ne _ _ _ _ _ (by omega : (5 : Nat) ≠ 3)]
  have e11 : zu (zu (zu A 3 x v) 5 x (-1)) 11 x al 11 = zu A 11 x al 11 := by
    funext j
    rw [zu_at, zu_at, zu_ne _ _ _ _ _ (by omega : (11 : Nat) ≠ 5), zu_ne _ _ _ _ _ (by omega : (11 : Nat) ≠ 3)]
  refine ⟨by rw [e 0 (by omega) (by omega) (by omega)]; exact ⟨a0, a1, a2⟩, fun j hj => ?_, fun c hc c0 c3 c5 c11 => by rw [e c c3 c5 c11]; exact h3 c hc c0 c3 c5 c11, h4⟩
  rw [e3, e5, e11, zu_at, zu_at, zu_at]
  by_cases d : j = x
  · subst d
    rw [if_pos rfl, if_pos rfl, if_pos rfl]
    exact ⟨hv, rfl, ha⟩
  · rw [if_neg d, if_neg d, if_neg d]
    exact h2 j (by omega)
/-- its loop over the nodes -/
theorem k_X7_332 {ar : Nat → Nat} {S1 : zS} {Qp : zZ → zS → Prop} {K : zS → Prop} (hn : 2 ≤ n ∧ n ≤ 8) (hb : zMb Z S1 ar S) (hT : mT n w 0 (mI S ar) (mJ S ar)) (k : ∀ S', zMb Z S1 ar S' → mT n w 8 (mI S' ar) (mJ S' ar) → K S') : wL_X7_init_332 Z (ar 0) Qp K 0 S := by
  have hz0 : (0 : Int32) = nI 0 := rfl
  rw [hz0]
  refine zlp2 (fun x S => ∃ m, m ≤ 8 ∧ x = nI m ∧ zMb Z S1 ar S ∧ mT n w m (mI S ar) (mJ S ar)) (fun x _ => 9 - x.toNatClampNeg) (fun rec x S hI hrec => ?_) _ S ⟨0, by omega, rfl, hb, hT⟩
  obtain ⟨m, hm, rfl, hb, hT⟩ := hI
  have h8 : (8 ≤ nI m) ↔ 8 ≤ m := nI_leI (a := 8) (by omega) (by omega)
  have hcm : (nI m).toNatClampNeg = m := nI_clamp (by omega)
  unfold wb_X7_init_332
  refine ⟨fun z => ?_, fun z => ?_⟩
  · have : m = 8 := by have := h8.mp z; omega
    subst this
    exact k S hb hT
  · have hm8 : m < 8 := Nat.lt_of_not_le (fun y => z (h8.mpr y))
    have hk := hb.1.2.1
    have eA : zI S (ar 0) 1 = nI n := hT.1.2.1
    have hle : (nI n ≤ nI m) ↔ n ≤ m := nI_leI (by omega) (by omega)
    obtain ⟨q3, z3, n3⟩ := hk 3 (by omega) (by omega)
    obtain ⟨q5, z5, n5⟩ := hk 5 (by omega) (by omega)
    obtain ⟨q11, z11, n11⟩ := hk 11 (by omega) (by omega)
    have v3 : vp_in (nI m) (zN Z (ar 3)) := by rw [n3]; exact vp_in_nI (show m < 8 from hm8) (show 8 < 2 ^ 31 by omega)
    have v5 : vp_in (nI m) (zN Z (ar 5)) := by rw [n5]; exact vp_in_nI (show m < 8 from hm8) (show 8 < 2 ^ 31 by omega)
    have v11 : vp_in (nI m) (zN Z (ar 11)) := by rw [n11]; exact vp_in_nI (show m < 8 from hm8) (show 8 < 2 ^ 31 by omega)
    have key : ∀ v : Int32, zb v → (m < n → v = 1) → wJ_X7_init_356 Z Qp K rec (ar 0) (nI m) v (nI m) (ar 3) S := fun v hv hv1 => by
      unfold wJ_X7_init_356
      rw [hcm]
      refine ⟨z3, v3, hv, fun S1363 e1 => ⟨hb.1.1, ar 5, q5, z5, v5, fun S1370 e2 => ⟨ar 11, q11, z11, v11, fun S1375 e3 y e4 => ?_⟩⟩⟩
      have i0 : zI S1370 (ar 0) 1 = nI n := by
        have n3 : ar 0 ≠ ar 3 := fun z => by have := (hb.1.2.2 0 3).mp z; omega
        have n5 : ar 0 ≠ ar 5 := fun z => by have := (hb.1.2.2 0 5).mp z; omega
        rw [e2, e1, zI_sI, if_neg (fun z => n5 z.1), zI_sI, if_neg (fun z => n3 z.1)]
        exact eA
      rw [i0, all_nI hn.2] at e3
      refine hrec _ _ ⟨m + 1, by omega, by rw [e4, nI_1], ?_, ?_⟩ (by rw [e4, nI_1, nI_clamp (by omega), hcm]; omega)
      · rw [e3, e2, e1]
        exact zMb_I (zMb_I (zMb_I hb (by omega) _ _) (by omega) _ _) (by omega) _ _
      · rw [e3, e2, e1, mI_I hb.1.2.2, mI_I hb.1.2.2, mI_I hb.1.2.2]
        exact mT_step hT hv1 rfl
    refine ⟨hb.1.1, ar 3, q3, ?_⟩
    rw [eA, hle]
    exact ⟨fun z => key 0 (Or.inl rfl) (fun y => absurd z (by omega)), fun _ => key 1 (Or.inr rfl) (fun _ => rfl)⟩
theorem mT_0 {ar : Nat → Nat} {S1 : zS} {n w : Nat} (hb : zMb Z S1 ar S) (hz : ∀ c, mgd c → (∀ j, zI S (ar c) j = 0) ∧ ∀ j, zJ S (ar c) j = 0) : zMb Z S1 ar (zsI (zsI S (ar 0) 1 (nI n)) (ar 0) 2 (nI w)) ∧ mT n w 0 (mI (zsI (zsI S (ar 0) 1 (nI n)) (ar 0) 2 (nI w)) ar) (mJ (zsI (zsI S (ar 0) 1 (nI n)) (ar 0) 2 (nI w)) ar) := by
  refine ⟨zMb_I (zMb_I hb (by omega) _ _) (by omega) _ _, ?_⟩
  rw [mI_I hb.1.2.2, mI_I hb.1.2.2]
  refine ⟨⟨?_, ?_, ?_⟩, fun j hj => absurd hj (Nat.not_lt_zero j), fun c hc c0 _ _ _ j => ?_, fun c hc j => (hz c hc).2 j⟩
  · rw [zu_at, if_neg (by omega), zu_at, if_neg (by omega)]; exact (hz 0 (Or.inl rfl)).1 0
  · rw [zu_at, if_neg (by omega), zu_at, if_pos rfl]
  · rw [zu_at, if_pos rfl]
  · rw [zu_ne _ _ _ _ _ c0, zu_ne _ _ _ _ _ c0]; exact (hz c hc).1 j
theorem k_X7_302 {ar : Nat → Nat} {Qp : zZ → zS → Prop} {x2 t0 : Int32} (hn : 2 ≤ n ∧ n ≤ 8) (ht : t0 = nI n) (d1 : 1 ≤ x2 → x2 ≤ 8 → x2 = nI w) (d2 : 1 ≤ x2 → ¬ x2 ≤ 8 → w = 8) (d3 : ¬ 1 ≤ x2 → w = 1) (hs : zMs Z ar) (hz : ∀ c, mgd c → (∀ j, zI S (ar c) j = 0) ∧ ∀ j, zJ S (ar c) j = 0) (k : ∀ S', zMb Z S ar S' → mT n w 8 (mI S' ar) (mJ S' ar) → Qp Z S') : wJ_X7_init_302 Z Qp (ar 0) x2 t0 (ar 0) S := by
  subst ht
  have hb : zMb Z S ar S := ⟨hs, fun a _ => zAt_rf _ _⟩
  have key : ∀ (v : Int32) (S2 : zS), v = nI w → S2 = zsI (zsI S (ar 0) 1 (nI n)) (ar 0) 2 v → wL_X7_init_332 Z (ar 0) Qp (fun (S1379 : zS) => Qp Z S1379) 0 S2 := fun v S2 hv e => by
    subst hv
    obtain ⟨x, y⟩ := mT_0 (n := n) (w := w) hb hz
    rw [← e] at x y
    exact k_X7_332 hn x y k
  unfold wJ_X7_init_302
  refine ⟨hs.1, fun S1355 e1 => ⟨fun c1 => ⟨fun c2 => ⟨hs.1, fun S2 e2 => key x2 S2 (d1 c1 c2) (by rw [e2, e1])⟩, fun c2 => ⟨hs.1, fun S2 e2 => key 8 S2 (by rw [d2 c1 c2]; rfl) (by rw [e2, e1])⟩⟩, fun c1 => ⟨hs.1, fun S2 e2 => key 1 S2 (by rw [d3 c1]; rfl) (by rw [e2, e1])⟩⟩⟩
end
set_option maxHeartbeats 1000000 in
theorem k_X7 {Z : zZ} {S : zS} {q a n w : Nat} {Qp : zZ → zS → Prop} {p0 p1 : Int32} (ok : zok Z) (o : zOc Z S q a (zr0 7 36)) (hq : zPm Z = q + 1) (hn : 2 ≤ n ∧ n ≤ 8) (c1 : 2 ≤ p0 → p0 ≤ 8 → p0 = nI n) (c2 : 2 ≤ p0 → ¬ p0 ≤ 8 → n = 8) (c3 : ¬ 2 ≤ p0 → n = 2) (hw : w ≤ 8) (d1 : 1 ≤ p1 → p1 ≤ 8 → p1 = nI w) (d2 : 1 ≤ p1 → ¬ p1 ≤ 8 → w = 8) (d3 : ¬ 1 ≤ p1 → w = 1) (k : ∀ Z' S' ar, zok Z' → zPm Z' = q + 34 → zX q Z Z' S S' → ar 0 = a → a = zPa Z' q → (∀ c, 3 ≤ c → c < 36 → ar c = zPa Z' (q + 1 + (c - 3))) → zMV Z' S' ar n w (fun _ => 0) uZ S' (G0 n) → Qp Z' S') : w_X7_init Z a p0 p1 S Qp := by
  have h : mP Z S q a 0 Z S := ⟨ok, hq, zX_rf _ _ _, ⟨fun _ => none, o, fun k hk => absurd hk (Nat.not_lt_zero k)⟩, fun k hk => absurd hk (Nat.not_lt_zero k)⟩
  unfold w_X7_init
  intro b1 hb1 Z3 S4 eZ3 eS4
  obtain ⟨hk, y⟩ := mP_step h rfl rfl hb1 eZ3 eS4
  refine ⟨hk, ?_⟩
  intro Z7 eZ7
  have h := y Z7 eZ7
  clear y eZ3 eS4 eZ7 hb1
  intro b10 hb10 Z12 S13 eZ12 eS13
  obtain ⟨-, y⟩ := mP_step h rfl rfl hb10 eZ12 eS13
  intro Z17 eZ17
  have h := y Z17 eZ17
  clear y eZ12 eS13 eZ17 hb10
  intro b21 hb21 Z23 S24 eZ23 eS24
  obtain ⟨-, y⟩ := mP_step h rfl rfl hb21 eZ23 eS24
  intro Z29 eZ29
  have h := y Z29 eZ29
  clear y eZ23 eS24 eZ29 hb21
  intro b34 hb34 Z36 S37 eZ36 eS37
  obtain ⟨-, y⟩ := mP_step h rfl rfl hb34 eZ36 eS37
  intro Z43 eZ43
  have h := y Z43 eZ43
  clear y eZ36 eS37 eZ43 hb34
  intro b49 hb49 Z51 S52 eZ51 eS52
  obtain ⟨-, y⟩ := mP_step h rfl rfl hb49 eZ51 eS52
  intro Z59 eZ59
  have h := y Z59 eZ59
  clear y eZ51 eS52 eZ59 hb49
  intro b66 hb66 Z68 S69 eZ68 eS69
  obtain ⟨-, y⟩ := mP_step h rfl rfl hb66 eZ68 eS69
  intro Z77 eZ77
  have h := y Z77 eZ77
  clear y eZ68 eS69 eZ77 hb66
  intro b85 hb85 Z87 S88 eZ87 eS88
  obtain ⟨-, y⟩ := mP_step h rfl rfl hb85 eZ87 eS88
  intro Z97 eZ97
  have h := y Z97 eZ97
  clear y eZ87 eS88 eZ97 hb85
  intro b106 hb106 Z108 S109 eZ108 eS109
  obtain ⟨-, y⟩ := mP_step h rfl rfl hb106 eZ108 eS109
  intro Z119 eZ119
  have h := y Z119 eZ119
  clear y eZ108 eS109 eZ119 hb106
  intro b129 hb129 Z131 S132 eZ131 eS132
  obtain ⟨-, y⟩ := mP_step h rfl rfl hb129 eZ131 eS132
  intro Z143 eZ143
  have h := y Z143 eZ143
  clear y eZ131 eS132 eZ143 hb129
  intro b154 hb154 Z156 S157 eZ156 eS157
  obtain ⟨-, y⟩ := mP_step h rfl rfl hb154 eZ156 eS157
  intro Z169 eZ169
  have h := y Z169 eZ169
  clear y eZ156 eS157 eZ169 hb154
  intro b181 hb181 Z183 S184 eZ183 eS184
  obtain ⟨-, y⟩ := mP_step h rfl rfl hb181 eZ183 eS184
  intro Z197 eZ197
  have h := y Z197 eZ197
  clear y eZ183 eS184 eZ197 hb181
  intro b210 hb210 Z212 S213 eZ212 eS213
  obtain ⟨-, y⟩ := mP_step h rfl rfl hb210 eZ212 eS213
  intro Z227 eZ227
  have h := y Z227 eZ227
  clear y eZ212 eS213 eZ227 hb210
  intro b241 hb241 Z243 S244 eZ243 eS244
  obtain ⟨-, y⟩ := mP_step h rfl rfl hb241 eZ243 eS244
  intro Z259 eZ259
  have h := y Z259 eZ259
  clear y eZ243 eS244 eZ259 hb241
  intro b274 hb274 Z276 S277 eZ276 eS277
  obtain ⟨-, y⟩ := mP_step h rfl rfl hb274 eZ276 eS277
  intro Z293 eZ293
  have h := y Z293 eZ293
  clear y eZ276 eS277 eZ293 hb274
  intro b309 hb309 Z311 S312 eZ311 eS312
  obtain ⟨-, y⟩ := mP_step h rfl rfl hb309 eZ311 eS312
  intro Z329 eZ329
  have h := y Z329 eZ329
  clear y eZ311 eS312 eZ329 hb309
  intro b346 hb346 Z348 S349 eZ348 eS349
  obtain ⟨-, y⟩ := mP_step h rfl rfl hb346 eZ348 eS349
  intro Z367 eZ367
  have h := y Z367 eZ367
  clear y eZ348 eS349 eZ367 hb346
  intro b385 hb385 Z387 S388 eZ387 eS388
  obtain ⟨-, y⟩ := mP_step h rfl rfl hb385 eZ387 eS388
  intro Z407 eZ407
  have h := y Z407 eZ407
  clear y eZ387 eS388 eZ407 hb385
  intro b426 hb426 Z428 S429 eZ428 eS429
  obtain ⟨-, y⟩ := mP_step h rfl rfl hb426 eZ428 eS429
  intro Z449 eZ449
  have h := y Z449 eZ449
  clear y eZ428 eS429 eZ449 hb426
  intro b469 hb469 Z471 S472 eZ471 eS472
  obtain ⟨-, y⟩ := mP_step h rfl rfl hb469 eZ471 eS472
  intro Z493 eZ493
  have h := y Z493 eZ493
  clear y eZ471 eS472 eZ493 hb469
  intro b514 hb514 Z516 S517 eZ516 eS517
  obtain ⟨-, y⟩ := mP_step h rfl rfl hb514 eZ516 eS517
  intro Z539 eZ539
  have h := y Z539 eZ539
  clear y eZ516 eS517 eZ539 hb514
  intro b561 hb561 Z563 S564 eZ563 eS564
  obtain ⟨-, y⟩ := mP_step h rfl rfl hb561 eZ563 eS564
  intro Z587 eZ587
  have h := y Z587 eZ587
  clear y eZ563 eS564 eZ587 hb561
  intro b610 hb610 Z612 S613 eZ612 eS613
  obtain ⟨-, y⟩ := mP_step h rfl rfl hb610 eZ612 eS613
  intro Z637 eZ637
  have h := y Z637 eZ637
  clear y eZ612 eS613 eZ637 hb610
  intro b661 hb661 Z663 S664 eZ663 eS664
  obtain ⟨-, y⟩ := mP_step h rfl rfl hb661 eZ663 eS664
  intro Z689 eZ689
  have h := y Z689 eZ689
  clear y eZ663 eS664 eZ689 hb661
  intro b714 hb714 Z716 S717 eZ716 eS717
  obtain ⟨-, y⟩ := mP_step h rfl rfl hb714 eZ716 eS717
  intro Z743 eZ743
  have h := y Z743 eZ743
  clear y eZ716 eS717 eZ743 hb714
  intro b769 hb769 Z771 S772 eZ771 eS772
  obtain ⟨-, y⟩ := mP_step h rfl rfl hb769 eZ771 eS772
  intro Z799 eZ799
  have h := y Z799 eZ799
  clear y eZ771 eS772 eZ799 hb769
  intro b826 hb826 Z828 S829 eZ828 eS829
  obtain ⟨-, y⟩ := mP_step h rfl rfl hb826 eZ828 eS829
  intro Z857 eZ857
  have h := y Z857 eZ857
  clear y eZ828 eS829 eZ857 hb826
  intro b885 hb885 Z887 S888 eZ887 eS888
  obtain ⟨-, y⟩ := mP_step h rfl rfl hb885 eZ887 eS888
  intro Z917 eZ917
  have h := y Z917 eZ917
  clear y eZ887 eS888 eZ917 hb885
  intro b946 hb946 Z948 S949 eZ948 eS949
  obtain ⟨-, y⟩ := mP_step h rfl rfl hb946 eZ948 eS949
  intro Z979 eZ979
  have h := y Z979 eZ979
  clear y eZ948 eS949 eZ979 hb946
  intro b1009 hb1009 Z1011 S1012 eZ1011 eS1012
  obtain ⟨-, y⟩ := mP_step h rfl rfl hb1009 eZ1011 eS1012
  intro Z1043 eZ1043
  have h := y Z1043 eZ1043
  clear y eZ1011 eS1012 eZ1043 hb1009
  intro b1074 hb1074 Z1076 S1077 eZ1076 eS1077
  obtain ⟨-, y⟩ := mP_step h rfl rfl hb1074 eZ1076 eS1077
  intro Z1109 eZ1109
  have h := y Z1109 eZ1109
  clear y eZ1076 eS1077 eZ1109 hb1074
  intro b1141 hb1141 Z1143 S1144 eZ1143 eS1144
  obtain ⟨-, y⟩ := mP_step h rfl rfl hb1141 eZ1143 eS1144
  intro Z1177 eZ1177
  have h := y Z1177 eZ1177
  clear y eZ1143 eS1144 eZ1177 hb1141
  intro b1210 hb1210 Z1212 S1213 eZ1212 eS1213
  obtain ⟨-, y⟩ := mP_step h rfl rfl hb1210 eZ1212 eS1213
  intro Z1247 eZ1247
  have h := y Z1247 eZ1247
  clear y eZ1212 eS1213 eZ1247 hb1210
  intro b1281 hb1281 Z1283 S1284 eZ1283 eS1284
  obtain ⟨-, y⟩ := mP_step h rfl rfl hb1281 eZ1283 eS1284
  intro Z1319 eZ1319
  have h := y Z1319 eZ1319
  clear y eZ1283 eS1284 eZ1319 hb1281
  obtain ⟨ar, ha0, har, hs, hz, hno⟩ := mP_end h
  obtain ⟨ok', hp, hx, ⟨Q, o', hQ⟩, hc⟩ := h
  have hne0 : ∀ p, p < q → ∀ k, k < 36 → zPa Z p ≠ ar k := fun p hp' k hk e => by
    have e1 : zPa Z1319 p = zPa Z p := (hx.2 p (by omega)).1
    rw [← e1] at e
    by_cases g : mgd k
    · by_cases g0 : k = 0
      · rw [g0, ha0, ← o'.2] at e
        have := ok' p q (by omega) (by omega) e
        omega
      · have h3 : 3 ≤ k ∧ k < 36 := by rcases g with z | z <;> omega
        rw [har k h3.1 h3.2] at e
        have := ok' p (q + 1 + (k - 3)) (by omega) (by omega) e
        omega
    · refine hno k g ?_
      rw [← e]
      exact zPa_in (by omega)
  have hK : ∀ S', zMb Z1319 S1284 ar S' → mT n w 8 (mI S' ar) (mJ S' ar) → Qp Z1319 S' := fun S' hb hT => by
    refine k _ S' ar ok' hp ⟨hx.1, fun p hp' => ⟨(hx.2 p hp').1, fun hne => ?_⟩⟩ ha0 o'.2.symm har ⟨⟨hs, fun a _ => zAt_rf _ _⟩, mT_end hn hw hT⟩
    rw [← (hx.2 p hp').2 hne]
    have f := hb.2 (zPa Z p) (hne0 p (by omega))
    unfold zO
    rw [f.1, f.2.1, f.2.2]
  have key : ∀ t0 : Int32, t0 = nI n → wJ_X7_init_302 Z1319 Qp a p1 t0 a S1284 := fun t0 ht => by
    have z := k_X7_302 (Qp := Qp) (x2 := p1) (w := w) hn ht d1 d2 d3 hs hz hK
    rw [ha0] at z
    exact z
  exact ⟨fun z => ⟨fun y => key p0 (c1 z y), fun y => key 8 (by rw [c2 z y]; rfl)⟩, fun z => key 2 (by rw [c3 z]; rfl)⟩
