/-! what the class writes -/
theorem z_ifc {α : Type} {c d : Prop} [Decidable c] [Decidable d] {x y y' : α} (h : c ↔ d) (e : y = y') : (if c then x else y) = if d then x else y' := by
  by_cases q : c
  · rw [if_pos q, if_pos (h.mp q)]
  · rw [if_neg q, if_neg (fun r => q (h.mpr r)), e]
section
variable {Z : zZ} {S0 S : zS} {ad : Nat → Nat → Nat} {n w : Nat} {G : gT}
theorem zCV_inj (H : zCV Z S0 ad n w S G) {t i t' i' : Nat} : ad t i = ad t' i' ↔ t = t' ∧ i = i' := H.1.2.2.2.2.1 t i t' i'
theorem zCV_ne (H : zCV Z S0 ad n w S G) {t i t' i' : Nat} (h : ¬ (t = t' ∧ i = i')) : ad t i ≠ ad t' i' := fun q => h ((zCV_inj H).mp q)
theorem zCV_nm (H : zCV Z S0 ad n w S G) (t i b : Nat) (hb : zk Z b 1) : b ≠ ad t i := fun q => H.1.2.2.2.2.2.1 t i (q ▸ hb)
theorem zCV_nd (H : zCV Z S0 ad n w S G) {i : Nat} (hi : i < n) : zNd Z ad i := (H.1.2.2.1 i hi).2.2
theorem zCV_rg (H : zCV Z S0 ad n w S G) {r : Nat} (hr : zri n r) : zRg Z ad r := H.1.2.2.2.1 r hr
theorem zCV_n (H : zCV Z S0 ad n w S G) : 2 ≤ n ∧ n ≤ 8 := H.1.2.2.2.2.2.2
/-- a write to a cell of node i that does not touch the others; what is left is what node i itself says -/
theorem zCV_node (H : zCV Z S0 ad n w S G) {i t : Nat} (ht : t ≠ 0) (ht2 : t < 12) {S' : zS} {N : nT} (hS : ∀ a, a ≠ ad t i → zAt S S' a) (hr : zri n (N.1 2 0)) (hN : zCn Z S' ad i N (G.2 (N.1 2 0))) : zCV Z S0 ad n w S' (gN G i N) := by
  obtain ⟨h1, h2, h3, h4, h5⟩ := id H
  refine ⟨h1, ?_, fun j hj => ?_, fun r hr => ?_, fun a ha => ?_⟩
  · rw [(hS _ (zCV_ne H (fun q => ht q.1.symm))).1]; exact h2
  · by_cases e : j = i
    · subst e
      rw [g1_Ns, g2_N]
      exact ⟨hN, hr⟩
    · rw [g1_Nn _ _ e, g2_N]
      exact ⟨zCn_at (fun t' => hS _ (zCV_ne H (fun q => e q.2))) (fun b hb => hS _ (zCV_nm H _ _ _ hb)) (h3 j hj).1, (h3 j hj).2⟩
  · have hr' := h4 r hr
    rw [g2_N]
    unfold zCr
    rw [(hS (ad 12 r) (zCV_ne H (fun q => by omega))).1, (hS (ad 13 r) (zCV_ne H (fun q => by omega))).1, (hS (ad 14 r) (zCV_ne H (fun q => by omega))).1]
    exact hr'
  · exact zAt_tr (h5 a ha) (hS a (ha t i))
theorem cs_I (H : zCV Z S0 ad n w S G) {i : Nat} (hi : i < n) (f : Nat) (hf : f < 12) (h2 : f ≠ 2) {v : Nat} (hp : f ≠ 11 ∨ v ≤ (G.1 i).1 11 0) : zCV Z S0 ad n w (zsI S (ad (cT f) i) (cS f) (nI v)) (gN G i (nsI (G.1 i) f 0 v)) := by
  have ht : cT f = 3 ∨ cT f = 4 ∨ cT f = 6 ∨ cT f = 9 := cT_rg f hf
  obtain ⟨⟨k1, k2, k3, k4, k5, k6⟩, hr⟩ := H.2.2.1 i hi
  refine zCV_node H (t := cT f) (by omega) (by omega) (fun a ha => zAt_sI S _ _ ha) (by rw [n1_sI, if_neg (fun q => h2 q.1.symm)]; exact hr) ⟨⟨?_, fun g hg hg2 => ?_⟩, ?_, k3, ?_, ?_, ?_⟩
  · rw [zI_sI, if_neg (fun q => cS_0 f hf q.2.symm)]; exact k1.1
  · rw [zI_sI, n1_sI]
    by_cases e : g = f
    · subst e
      rw [if_pos ⟨rfl, rfl⟩, if_pos ⟨rfl, rfl⟩]
    · rw [if_neg (fun q => e (cTS_inj g hg f hf ((zCV_inj H).mp q.1).1 q.2)), if_neg (fun q => e q.1)]
      exact k1.2 g hg hg2
  · unfold cnR
    rw [n1_sI, if_neg (fun q => h2 q.1.symm)]
    exact k2
  · intro k hk
    have hk' : k < (G.1 i).1 11 0 := by
      rw [n1_sI] at hk
      split at hk
      · rename_i q; omega
      · exact hk
    obtain ⟨b, b1, b2⟩ := k4 k hk'
    refine ⟨b, b1, zMg_at (zAt_sI S _ _ (zCV_nm H _ _ _ b2.1)) ?_⟩
    rw [n1_sI, if_neg (fun q => by omega), n1_sI, if_neg (fun q => by omega)]
    exact b2
  · intro p hp
    have e1 : (nsI (G.1 i) f 0 v).1 14 p = (G.1 i).1 14 p := if_neg (fun q => by omega)
    have e2 : (nsI (G.1 i) f 0 v).1 15 p = (G.1 i).1 15 p := if_neg (fun q => by omega)
    rw [e1, e2]
    refine ⟨(k5 p hp).1, fun hn => ?_⟩
    obtain ⟨b, b1, b2⟩ := (k5 p hp).2 hn
    exact ⟨b, b1, zMk1_at (zAt_sI S _ _ (zCV_nm H _ _ _ b2.1)) b2⟩
  · intro p hp
    have e1 : (nsI (G.1 i) f 0 v).1 16 p = (G.1 i).1 16 p := if_neg (fun q => by omega)
    have e2 : (nsI (G.1 i) f 0 v).1 2 0 = (G.1 i).1 2 0 := if_neg (fun q => h2 q.1.symm)
    rw [e1, e2]
    refine ⟨(k6 p hp).1, fun hn => ?_⟩
    obtain ⟨b, b1, b2⟩ := (k6 p hp).2 hn
    exact ⟨b, b1, zMg_at (zAt_sI S _ _ (zCV_nm H _ _ _ b2.1)) b2⟩
/-- longs: mark, table, log -/
theorem cs_J (H : zCV Z S0 ad n w S G) {i : Nat} (hi : i < n) (f k t : Nat) (sl : Nat) (v : Int64) (hf : (f = 0 ∧ k = 0 ∧ t = 6 ∧ sl = 3) ∨ (f = 1 ∧ t = 7 ∧ sl = k) ∨ (f = 2 ∧ t = 10 ∧ sl = k)) : zCV Z S0 ad n w (zsJ S (ad t i) sl v) (gN G i (nsJ (G.1 i) f k v)) := by
  obtain ⟨⟨k1, k2, k3, k4, k5, k6⟩, hr⟩ := H.2.2.1 i hi
  have inj : ∀ t t' : Nat, (ad t i = ad t' i) = (t = t') := fun t t' => propext ((zCV_inj H).trans ⟨fun q => q.1, fun q => ⟨q, rfl⟩⟩)
  refine zCV_node H (t := t) (by omega) (by omega) (fun a ha => zAt_sJ S _ _ ha) hr ⟨k1, k2, ⟨?_, fun a ha => ?_, fun a ha => ?_⟩, fun a ha => ?_, fun a ha => ?_, fun a ha => ?_⟩
  · rw [zJ_sJ, n2_sJ]
    refine z_ifc ?_ (k3.1)
    rw [inj]
    constructor <;> intro q <;> omega
  · rw [zJ_sJ, n2_sJ]
    refine z_ifc ?_ (k3.2.1 a ha)
    rw [inj]
    constructor <;> intro q <;> omega
  · rw [zJ_sJ, n2_sJ]
    refine z_ifc ?_ (k3.2.2 a ha)
    rw [inj]
    constructor <;> intro q <;> omega
  · obtain ⟨b, b1, b2⟩ := k4 a ha
    have e : (nsJ (G.1 i) f k v).2 12 a = (G.1 i).2 12 a := if_neg (fun q => by omega)
    rw [e]
    exact ⟨b, b1, zMg_at (zAt_sJ S _ _ (zCV_nm H _ _ _ b2.1)) b2⟩
  · have e : (nsJ (G.1 i) f k v).2 14 a = (G.1 i).2 14 a := if_neg (fun q => by omega)
    rw [e]
    refine ⟨(k5 a ha).1, fun hn => ?_⟩
    obtain ⟨b, b1, b2⟩ := (k5 a ha).2 hn
    exact ⟨b, b1, zMk1_at (zAt_sJ S _ _ (zCV_nm H _ _ _ b2.1)) b2⟩
  · refine ⟨(k6 a ha).1, fun hn => ?_⟩
    obtain ⟨b, b1, b2⟩ := (k6 a ha).2 hn
    exact ⟨b, b1, zMg_at (zAt_sJ S _ _ (zCV_nm H _ _ _ b2.1)) b2⟩
end
