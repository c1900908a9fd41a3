/-! what the class writes -/
theorem z_ifc {α : Type} {c d : Prop} [Decidable c] [Decidable d] {x y y' : α} (h : c ↔ d) (e : y = y') : (if c then x else y) = if d then x else y' := by
  by_cases q : c
  · rw [if_pos q, if_pos (h.mp q)]
  · rw [if_neg q, if_neg (fun r => q (h.mpr r)), e]
theorem n1_ne (N : nT) {f f' : Nat} (j v j' : Nat) (h : f' ≠ f) : (nsI N f j v).1 f' j' = N.1 f' j' := if_neg (fun q => h q.1)
theorem n2_ne (N : nT) {f f' : Nat} (j : Nat) (v : Int64) (j' : Nat) (h : f' ≠ f) : (nsJ N f j v).2 f' j' = N.2 f' j' := if_neg (fun q => h q.1)
section
variable {Z : zZ} {S0 S : zS} {ad : Nat → Nat → Nat} {n w : Nat} {G : gT}
theorem zCV_inj (H : zCV Z S0 ad n w S G) {t i t' i' : Nat} : ad t i = ad t' i' ↔ t = t' ∧ i = i' := H.1.2.2.2.2.1 t i t' i'
theorem zCV_ne (H : zCV Z S0 ad n w S G) {t i t' i' : Nat} (h : ¬ (t = t' ∧ i = i')) : ad t i ≠ ad t' i' := fun q => h ((zCV_inj H).mp q)
theorem zCV_nm (H : zCV Z S0 ad n w S G) (t i b : Nat) (hb : zk Z b 1) : b ≠ ad t i := fun q => H.1.2.2.2.2.2.1 t i (q ▸ hb)
theorem zCV_nd (H : zCV Z S0 ad n w S G) {i : Nat} (hi : i < n) : zNd Z ad i := (H.1.2.2.1 i hi).2.2
theorem zCV_rg (H : zCV Z S0 ad n w S G) {r : Nat} (hr : zri n r) : zRg Z ad r := H.1.2.2.2.1 r hr
theorem zCV_n (H : zCV Z S0 ad n w S G) : 2 ≤ n ∧ n ≤ 8 := H.1.2.2.2.2.2.2
/-- writes to cells of node i that do not touch the others; what is left is what node i itself says -/
theorem zCV_nodeS (H : zCV Z S0 ad n w S G) {i : Nat} {S' : zS} {N : nT} (hS : ∀ a, (∀ t, t ≠ 0 → t < 12 → a ≠ ad t i) → zAt S S' a) (hr : zri n (N.1 2 0)) (hN : zCn Z S' ad i N (G.2 (N.1 2 0))) : zCV Z S0 ad n w S' (gN G i N) := by
  obtain ⟨h1, h2, h3, h4, h5⟩ := id H
  refine ⟨h1, ?_, fun j hj => ?_, fun r hr => ?_, fun a ha => ?_⟩
  · rw [(hS _ (fun t ht _ => zCV_ne H (fun q => ht q.1.symm))).1]; exact h2
  · by_cases e : j = i
    · subst e
      rw [g1_Ns, g2_N]
      exact ⟨hN, hr⟩
    · rw [g1_Nn _ _ e, g2_N]
      exact ⟨zCn_at (fun t' => hS _ (fun t _ _ => zCV_ne H (fun q => e q.2))) (fun b hb => hS _ (fun t _ _ => zCV_nm H _ _ _ hb)) (h3 j hj).1, (h3 j hj).2⟩
  · have hr' := h4 r hr
    rw [g2_N]
    unfold zCr
    rw [(hS (ad 12 r) (fun t _ _ => zCV_ne H (fun q => by omega))).1, (hS (ad 13 r) (fun t _ _ => zCV_ne H (fun q => by omega))).1, (hS (ad 14 r) (fun t _ _ => zCV_ne H (fun q => by omega))).1]
    exact hr'
  · exact zAt_tr (h5 a ha) (hS a (fun t _ _ => ha t i))
theorem zCV_node (H : zCV Z S0 ad n w S G) {i t : Nat} (ht : t ≠ 0) (ht2 : t < 12) {S' : zS} {N : nT} (hS : ∀ a, a ≠ ad t i → zAt S S' a) (hr : zri n (N.1 2 0)) (hN : zCn Z S' ad i N (G.2 (N.1 2 0))) : zCV Z S0 ad n w S' (gN G i N) :=
  zCV_nodeS H (fun a ha => hS a (ha t ht ht2)) hr hN
/-- writes to cells of ring r -/
theorem zCV_ring (H : zCV Z S0 ad n w S G) {r : Nat} {S' : zS} {R : nT} (hS : ∀ a, (∀ t, 12 ≤ t → a ≠ ad t r) → zAt S S' a) (hR : zCr S' ad r R) (hm : ∀ j, j < n → (G.1 j).1 2 0 = r → ∀ p, p < 101 → (G.1 j).1 16 p ≠ 0 → R.1 6 p = (G.2 r).1 6 p ∧ R.1 7 p = (G.2 r).1 7 p ∧ R.2 6 p = (G.2 r).2 6 p ∧ R.1 8 p = (G.2 r).1 8 p) : zCV Z S0 ad n w S' (gR G r R) := by
  obtain ⟨h1, h2, h3, h4, h5⟩ := id H
  refine ⟨h1, ?_, fun j hj => ?_, fun r' hr' => ?_, fun a ha => ?_⟩
  · rw [(hS _ (fun t ht => zCV_ne H (fun q => by omega))).1]; exact h2
  · obtain ⟨⟨k1, k2, k3, k4, k5, k6⟩, hr⟩ := h3 j hj
    have hat : ∀ t, t < 12 → zAt S S' (ad t j) := fun t ht => hS _ (fun t' ht' => zCV_ne H (fun q => by omega))
    have hb : ∀ b, zk Z b 1 → zAt S S' b := fun b hb => hS _ (fun t _ => zCV_nm H _ _ _ hb)
    rw [g1_R]
    refine ⟨⟨⟨by rw [(hat 3 (by omega)).1]; exact k1.1, fun f hf h2 => ?_⟩, cnR_at (hat 3 (by omega)) k2, ?_, cnP_at (hat 5 (by omega)).2.2 hb k4, cnK_at (hat 8 (by omega)).2.2 hb k5, ?_⟩, hr⟩
    · rw [(hat (cT f) (by have := cT_rg f hf; omega)).1]; exact k1.2 f hf h2
    · unfold cnJ
      rw [(hat 6 (by omega)).2.1, (hat 7 (by omega)).2.1, (hat 10 (by omega)).2.1]
      exact k3
    · by_cases e : (G.1 j).1 2 0 = r
      · subst e
        rw [g2_Rs]
        intro p hp
        rw [(hat 11 (by omega)).2.2]
        refine ⟨(k6 p hp).1, fun hn => ?_⟩
        obtain ⟨b, b1, b2⟩ := (k6 p hp).2 hn
        obtain ⟨e1, e2, e3, e4⟩ := hm j hj rfl p hp hn
        refine ⟨b, b1, zMg_at (hb b b2.1) ?_⟩
        rw [e1, e2, e3, e4]
        exact b2
      · rw [g2_Rn _ _ e]
        exact cnH_at (hat 11 (by omega)).2.2 hb k6
  · by_cases e : r' = r
    · subst e
      rw [g2_Rs]
      exact hR
    · rw [g2_Rn _ _ e]
      exact zCr_at (fun t' => hS _ (fun t _ => zCV_ne H (fun q => e q.2))) (h4 r' hr')
  · exact zAt_tr (h5 a ha) (hS a (fun t _ => ha t r))
theorem cs_I (H : zCV Z S0 ad n w S G) {i : Nat} (hi : i < n) (f : Nat) (hf : f < 12) (h2 : f ≠ 2) {v : Nat} (hp : f ≠ 11 ∨ v ≤ (G.1 i).1 11 0) : zCV Z S0 ad n w (zsI S (ad (cT f) i) (cS f) (nI v)) (gN G i (nsI (G.1 i) f 0 v)) := by
  have ht : cT f = 3 ∨ cT f = 4 ∨ cT f = 6 ∨ cT f = 9 := cT_rg f hf
  obtain ⟨⟨k1, k2, k3, k4, k5, k6⟩, hr⟩ := H.2.2.1 i hi
  refine zCV_node H (t := cT f) (by omega) (by omega) (fun a ha => zAt_sI S _ _ ha) (by rw [n1_sI, if_neg (fun q => h2 q.1.symm)]; exact hr) ⟨⟨?_, fun g hg hg2 => ?_⟩, ?_, k3, ?_, ?_, ?_⟩
  · rw [zI_sI, if_neg (fun q => cS_0 f hf q.2.symm)]; exact k1.1
  · rw [zI_sI, n1_sI]
    by_cases e : g = f
    · subst e
      rw [if_pos ⟨rfl, rfl⟩, if_pos ⟨rfl, rfl⟩]
    · rw [if_neg (fun q => e (cTS_inj g hg f hf ((zCV_inj H).mp q.1).1 q.2)), if_neg (fun q => e q.1)]
      exact k1.2 g hg hg2
  · unfold cnR
    rw [n1_sI, if_neg (fun q => h2 q.1.symm)]
    exact k2
  · intro k hk
    have hk' : k < (G.1 i).1 11 0 := by
      rw [n1_sI] at hk
      split at hk
      · rename_i q; omega
      · exact hk
    obtain ⟨b, b1, b2⟩ := k4 k hk'
    refine ⟨b, b1, zMg_at (zAt_sI S _ _ (zCV_nm H _ _ _ b2.1)) ?_⟩
    rw [n1_sI, if_neg (fun q => by omega), n1_sI, if_neg (fun q => by omega)]
    exact b2
  · intro p hp
    have e1 : (nsI (G.1 i) f 0 v).1 14 p = (G.1 i).1 14 p := if_neg (fun q => by omega)
    have e2 : (nsI (G.1 i) f 0 v).1 15 p = (G.1 i).1 15 p := if_neg (fun q => by omega)
    rw [e1, e2]
    refine ⟨(k5 p hp).1, fun hn => ?_⟩
    obtain ⟨b, b1, b2⟩ := (k5 p hp).2 hn
    exact ⟨b, b1, zMk1_at (zAt_sI S _ _ (zCV_nm H _ _ _ b2.1)) b2⟩
  · intro p hp
    have e1 : (nsI (G.1 i) f 0 v).1 16 p = (G.1 i).1 16 p := if_neg (fun q => by omega)
    have e2 : (nsI (G.1 i) f 0 v).1 2 0 = (G.1 i).1 2 0 := if_neg (fun q => h2 q.1.symm)
    rw [e1, e2]
    refine ⟨(k6 p hp).1, fun hn => ?_⟩
    obtain ⟨b, b1, b2⟩ := (k6 p hp).2 hn
    exact ⟨b, b1, zMg_at (zAt_sI S _ _ (zCV_nm H _ _ _ b2.1)) b2⟩
/-- longs: mark, table, log -/
theorem cs_J (H : zCV Z S0 ad n w S G) {i : Nat} (hi : i < n) (f k t : Nat) (sl : Nat) (v : Int64) (hf : (f = 0 ∧ k = 0 ∧ t = 6 ∧ sl = 3) ∨ (f = 1 ∧ t = 7 ∧ sl = k) ∨ (f = 2 ∧ t = 10 ∧ sl = k)) : zCV Z S0 ad n w (zsJ S (ad t i) sl v) (gN G i (nsJ (G.1 i) f k v)) := by
  obtain ⟨⟨k1, k2, k3, k4, k5, k6⟩, hr⟩ := H.2.2.1 i hi
  have inj : ∀ t t' : Nat, (ad t i = ad t' i) = (t = t') := fun t t' => propext ((zCV_inj H).trans ⟨fun q => q.1, fun q => ⟨q, rfl⟩⟩)
  refine zCV_node H (t := t) (by omega) (by omega) (fun a ha => zAt_sJ S _ _ ha) hr ⟨k1, k2, ⟨?_, fun a ha => ?_, fun a ha => ?_⟩, fun a ha => ?_, fun a ha => ?_, fun a ha => ?_⟩
  · rw [zJ_sJ, n2_sJ]
    refine z_ifc ?_ (k3.1)
    rw [inj]
    constructor <;> intro q <;> omega
  · rw [zJ_sJ, n2_sJ]
    refine z_ifc ?_ (k3.2.1 a ha)
    rw [inj]
    constructor <;> intro q <;> omega
  · rw [zJ_sJ, n2_sJ]
    refine z_ifc ?_ (k3.2.2 a ha)
    rw [inj]
    constructor <;> intro q <;> omega
  · obtain ⟨b, b1, b2⟩ := k4 a ha
    have e : (nsJ (G.1 i) f k v).2 12 a = (G.1 i).2 12 a := if_neg (fun q => by omega)
    rw [e]
    exact ⟨b, b1, zMg_at (zAt_sJ S _ _ (zCV_nm H _ _ _ b2.1)) b2⟩
  · have e : (nsJ (G.1 i) f k v).2 14 a = (G.1 i).2 14 a := if_neg (fun q => by omega)
    rw [e]
    refine ⟨(k5 a ha).1, fun hn => ?_⟩
    obtain ⟨b, b1, b2⟩ := (k5 a ha).2 hn
    exact ⟨b, b1, zMk1_at (zAt_sJ S _ _ (zCV_nm H _ _ _ b2.1)) b2⟩
  · refine ⟨(k6 a ha).1, fun hn => ?_⟩
    obtain ⟨b, b1, b2⟩ := (k6 a ha).2 hn
    exact ⟨b, b1, zMg_at (zAt_sJ S _ _ (zCV_nm H _ _ _ b2.1)) b2⟩
/-- a place that node i has: none, or the ring's message -/
theorem cs_H (H : zCV Z S0 ad n w S G) {i p : Nat} (hi : i < n) (v : Nat) (o : Option Nat) (h0 : v = 0 → o = none) (h1 : v ≠ 0 → ∃ b, o = some b ∧ zMg Z S b ((G.2 ((G.1 i).1 2 0)).1 6 p) ((G.2 ((G.1 i).1 2 0)).1 7 p) ((G.2 ((G.1 i).1 2 0)).2 6 p) ((G.2 ((G.1 i).1 2 0)).1 8 p)) : zCV Z S0 ad n w (zsR S (ad 11 i) p o) (gN G i (nsI (G.1 i) 16 p v)) := by
  obtain ⟨⟨k1, k2, k3, k4, k5, k6⟩, hr⟩ := H.2.2.1 i hi
  have hb : ∀ b, zk Z b 1 → zAt S (zsR S (ad 11 i) p o) b := fun b hb => zAt_sR S _ _ (zCV_nm H _ _ _ hb)
  have e1 : ∀ f q, f ≠ 16 → (nsI (G.1 i) 16 p v).1 f q = (G.1 i).1 f q := fun f q hf => if_neg (fun q => hf q.1)
  have e2 : ∀ t, t ≠ 11 → zR (zsR S (ad 11 i) p o) (ad t i) = zR S (ad t i) := fun t ht => zu_ne _ _ _ _ _ (zCV_ne H (fun q => ht q.1))
  refine zCV_node H (t := 11) (by omega) (by omega) (fun a ha => zAt_sR S _ _ ha) (by rw [e1 _ _ (by omega)]; exact hr) ⟨⟨k1.1, fun f hf h2 => ?_⟩, ?_, k3, fun k hk => ?_, fun q hq => ?_, fun q hq => ?_⟩
  · rw [e1 _ _ (by omega)]; exact k1.2 f hf h2
  · unfold cnR
    rw [e1 _ _ (by omega), e2 _ (by omega)]; exact k2
  · rw [e1 _ _ (by omega)] at hk
    rw [e1 _ _ (by omega), e1 _ _ (by omega)]
    exact cnP_at (e2 _ (by omega)) hb k4 k hk
  · rw [e1 _ _ (by omega), e1 _ _ (by omega)]
    exact cnK_at (e2 _ (by omega)) hb k5 q hq
  · rw [e1 2 _ (by omega), n1_sI, zR_sR]
    by_cases e : q = p
    · subst e
      rw [if_pos ⟨rfl, rfl⟩, if_pos ⟨rfl, rfl⟩]
      refine ⟨h0, fun hn => ?_⟩
      obtain ⟨b, b1, b2⟩ := h1 hn
      exact ⟨b, b1, zMg_at (hb b b2.1) b2⟩
    · rw [if_neg (fun r => e r.2), if_neg (fun r => e r.2)]
      refine ⟨(k6 q hq).1, fun hn => ?_⟩
      obtain ⟨b, b1, b2⟩ := (k6 q hq).2 hn
      exact ⟨b, b1, zMg_at (hb b b2.1) b2⟩
/-- a place that node i keeps -/
theorem cs_K (H : zCV Z S0 ad n w S G) {i p : Nat} (hi : i < n) (v key : Nat) (x : Int64) (o : Option Nat) (h0 : v = 0 → o = none) (h1 : v ≠ 0 → ∃ b, o = some b ∧ zMk1 Z S b key x) : zCV Z S0 ad n w (zsR S (ad 8 i) p o) (gN G i (nsJ (nsI (nsI (G.1 i) 14 p v) 15 p key) 14 p x)) := by
  obtain ⟨⟨k1, k2, k3, k4, k5, k6⟩, hr⟩ := H.2.2.1 i hi
  have hb : ∀ b, zk Z b 1 → zAt S (zsR S (ad 8 i) p o) b := fun b hb => zAt_sR S _ _ (zCV_nm H _ _ _ hb)
  have e1 : ∀ f q, f ≠ 14 → f ≠ 15 → (nsJ (nsI (nsI (G.1 i) 14 p v) 15 p key) 14 p x).1 f q = (G.1 i).1 f q := fun f q hf hf2 => (if_neg (fun q => hf2 q.1)).trans (if_neg (fun q => hf q.1))
  have e3 : ∀ f q, f ≠ 14 → (nsJ (nsI (nsI (G.1 i) 14 p v) 15 p key) 14 p x).2 f q = (G.1 i).2 f q := fun f q hf => (if_neg (fun q => hf q.1))
  have e2 : ∀ t, t ≠ 8 → zR (zsR S (ad 8 i) p o) (ad t i) = zR S (ad t i) := fun t ht => zu_ne _ _ _ _ _ (zCV_ne H (fun q => ht q.1))
  refine zCV_node H (t := 8) (by omega) (by omega) (fun a ha => zAt_sR S _ _ ha) (by rw [e1 _ _ (by omega) (by omega)]; exact hr) ⟨⟨k1.1, fun f hf h2 => ?_⟩, ?_, ⟨?_, fun k hk => ?_, fun k hk => ?_⟩, fun k hk => ?_, fun q hq => ?_, fun q hq => ?_⟩
  · rw [e1 _ _ (by omega) (by omega)]; exact k1.2 f hf h2
  · unfold cnR
    rw [e1 _ _ (by omega) (by omega), e2 _ (by omega)]; exact k2
  · rw [e3 _ _ (by omega)]; exact k3.1
  · rw [e3 _ _ (by omega)]; exact k3.2.1 k hk
  · rw [e3 _ _ (by omega)]; exact k3.2.2 k hk
  · rw [e1 _ _ (by omega) (by omega)] at hk
    rw [e1 _ _ (by omega) (by omega), e1 _ _ (by omega) (by omega), e3 _ _ (by omega)]
    exact cnP_at (e2 _ (by omega)) hb k4 k hk
  · have e4 : (nsJ (nsI (nsI (G.1 i) 14 p v) 15 p key) 14 p x).1 14 q = if q = p then v else (G.1 i).1 14 q := by
      rw [n1_sJ, n1_sI, if_neg (fun q => by omega), n1_sI]
      by_cases e : q = p <;> simp [e]
    have e5 : (nsJ (nsI (nsI (G.1 i) 14 p v) 15 p key) 14 p x).1 15 q = if q = p then key else (G.1 i).1 15 q := by
      rw [n1_sJ, n1_sI]
      by_cases e : q = p <;> simp [e, n1_sI]
    have e6 : (nsJ (nsI (nsI (G.1 i) 14 p v) 15 p key) 14 p x).2 14 q = if q = p then x else (G.1 i).2 14 q := by
      rw [n2_sJ]
      by_cases e : q = p <;> simp [e, n2_sI]
    rw [e4, e5, e6, zR_sR]
    by_cases e : q = p
    · subst e
      rw [if_pos rfl, if_pos ⟨rfl, rfl⟩, if_pos rfl, if_pos rfl]
      refine ⟨h0, fun hn => ?_⟩
      obtain ⟨b, b1, b2⟩ := h1 hn
      exact ⟨b, b1, zMk1_at (hb b b2.1) b2⟩
    · rw [if_neg e, if_neg (fun r => e r.2), if_neg e, if_neg e]
      refine ⟨(k5 q hq).1, fun hn => ?_⟩
      obtain ⟨b, b1, b2⟩ := (k5 q hq).2 hn
      exact ⟨b, b1, zMk1_at (hb b b2.1) b2⟩
  · rw [e1 _ _ (by omega) (by omega), e1 _ _ (by omega) (by omega)]
    exact cnH_at (e2 _ (by omega)) hb k6 q hq
theorem cs_Rf (H : zCV Z S0 ad n w S G) {r j : Nat} (hr : zri n r) (v : Nat) : zCV Z S0 ad n w (zsI S (ad 14 r) j (nI v)) (gR G r (nsI (G.2 r) 5 j v)) := by
  obtain ⟨⟨k1, k2, k3, k4⟩, k5, k6⟩ := H.2.2.2.1 r hr
  have e : ∀ t, t ≠ 14 → zI (zsI S (ad 14 r) j (nI v)) (ad t r) = zI S (ad t r) := fun t ht => zu_ne _ _ _ _ _ (zCV_ne H (fun q => ht q.1))
  refine zCV_ring H (fun a ha => zAt_sI S _ _ (ha 14 (by omega))) ⟨?_, ?_, fun q hq => ?_⟩ (fun _ _ _ p _ _ => ⟨n1_ne _ _ _ _ (by omega), n1_ne _ _ _ _ (by omega), rfl, n1_ne _ _ _ _ (by omega)⟩)
  · rw [e 12 (by omega), n1_sI, if_neg (fun q => by omega), n1_sI, if_neg (fun q => by omega), n1_sI, if_neg (fun q => by omega), n1_sI, if_neg (fun q => by omega)]
    exact ⟨k1, k2, k3, k4⟩
  · intro q hq
    rw [e 13 (by omega), n1_sI, if_neg (fun q => by omega)]
    exact k5 q hq
  · rw [zI_sI, n1_sI, k6 q hq]
    by_cases e : q = j <;> simp [e]
theorem cs_Rq (H : zCV Z S0 ad n w S G) {r j : Nat} (hr : zri n r) (v : Nat) : zCV Z S0 ad n w (zsI S (ad 13 r) j (nI v)) (gR G r (nsI (G.2 r) 4 j v)) := by
  obtain ⟨⟨k1, k2, k3, k4⟩, k5, k6⟩ := H.2.2.2.1 r hr
  have e : ∀ t, t ≠ 13 → zI (zsI S (ad 13 r) j (nI v)) (ad t r) = zI S (ad t r) := fun t ht => zu_ne _ _ _ _ _ (zCV_ne H (fun q => ht q.1))
  refine zCV_ring H (fun a ha => zAt_sI S _ _ (ha 13 (by omega))) ⟨?_, fun q hq => ?_, ?_⟩ (fun _ _ _ p _ _ => ⟨n1_ne _ _ _ _ (by omega), n1_ne _ _ _ _ (by omega), rfl, n1_ne _ _ _ _ (by omega)⟩)
  · rw [e 12 (by omega), n1_sI, if_neg (fun q => by omega), n1_sI, if_neg (fun q => by omega), n1_sI, if_neg (fun q => by omega), n1_sI, if_neg (fun q => by omega)]
    exact ⟨k1, k2, k3, k4⟩
  · rw [zI_sI, n1_sI, k5 q hq]
    by_cases e : q = j <;> simp [e]
  · intro q hq
    rw [e 14 (by omega), n1_sI, if_neg (fun q => by omega)]
    exact k6 q hq
/-- a ring's number, members, holder, last place -/
theorem cs_R (H : zCV Z S0 ad n w S G) {r f : Nat} (hr : zri n r) (hf : f < 4) (v : Nat) (x : Int32) (hx : x = if f = 2 then nI v - 1 else nI v) : zCV Z S0 ad n w (zsI S (ad 12 r) (f + 2) x) (gR G r (nsI (G.2 r) f 0 v)) := by
  obtain ⟨⟨k1, k2, k3, k4⟩, k5, k6⟩ := H.2.2.2.1 r hr
  have e : ∀ t, t ≠ 12 → zI (zsI S (ad 12 r) (f + 2) x) (ad t r) = zI S (ad t r) := fun t ht => zu_ne _ _ _ _ _ (zCV_ne H (fun q => ht q.1))
  refine zCV_ring H (fun a ha => zAt_sI S _ _ (ha 12 (by omega))) ⟨?_, fun q hq => ?_, fun q hq => ?_⟩ (fun _ _ _ p _ _ => ⟨n1_ne _ _ _ _ (by omega), n1_ne _ _ _ _ (by omega), rfl, n1_ne _ _ _ _ (by omega)⟩)
  · rw [zI_sI, zI_sI, zI_sI, zI_sI, n1_sI, n1_sI, n1_sI, n1_sI, k1, k2, k3, k4, hx]
    have : f = 0 ∨ f = 1 ∨ f = 2 ∨ f = 3 := by omega
    rcases this with e | e | e | e <;> subst e <;> simp
  · rw [e 13 (by omega), n1_sI, if_neg (fun q => by omega)]
    exact k5 q hq
  · rw [e 14 (by omega), n1_sI, if_neg (fun q => by omega)]
    exact k6 q hq
end
