/-! each call, of class and reference, keeps what holds between calls, and they answer alike -/
section
variable {Z : zZ} {S : zS} {x1 x2 x3 k : Nat} {x4 a1 a2 a3 : Int32} {rec : Nat → Int32 → zZ → zS → Prop}
theorem vp_01 {N : Nat} (h : N = 1) : vp_in 0 N := by
  rw [h]
  exact vp_in_nI (n := 0) (by omega) (by omega)
theorem zJ_at (S : zS) (a j : Nat) (v : Int64) : zJ (zsJ S a j v) a j = v := by
  show zu (zJ S) a j v a j = v
  rw [zu_at, if_pos rfl]
theorem r_pass (hI : zLI x1 x2 x3 k Z S) (hk : k < 49) (hrec : ∀ Z' S', zLI x1 x2 x3 (k + 1) Z' S' → ∀ y, y = x4 + 6 → rec (k + 1) y Z' S') : w_L_pass Z x1 a1 a2 x3 S (fun (v53 : Int32) (S52 : zS) => zk Z x2 7 ∧ w_X7_pass Z x2 a1 a2 S52 (fun (v56 : Int32) (S55 : zS) => w_X7_thrown Z x2 S55 (fun (v58 : Int32) (S57 : zS) => ((v58 = v53 → ((¬ v53 = 0 → ∀ y59 : Int32, y59 = x4 + 6 → rec (k + 1) y59 Z S57) ∧ (v53 = 0 → zk Z x3 9 ∧ vp_in 0 (zN Z x3) ∧ (((lg_cmp (zJ S57 x3 (0 : Int32).toNatClampNeg) ((v56 : Int32).toInt64)) = 0 → ∀ y62 : Int32, y62 = x4 + 6 → rec (k + 1) y62 Z S57) ∧ (¬ (lg_cmp (zJ S57 x3 (0 : Int32).toNatClampNeg) ((v56 : Int32).toInt64)) = 0 → False))))) ∧ (¬ v58 = v53 → False))))) := by
  obtain ⟨ad, ar, n, w, sg, G, l, hC, hM, hJ, ⟨rfl, rfl⟩, hW, hl⟩ := hI
  have hn := zCV_n hC
  have hw := (mV_n hM).2.2.2.2
  have z7 := mV_0 hM
  have z3 := hJ.2.2.1
  have hN := hJ.2.2.2.1
  have v0 := vp_01 hN
  unfold w_L_pass
  refine ⟨hC.1.1.1, c_passAll hC hW (by omega) (by omega) hw (fun i hi hx h2 h8 S' H' => ⟨z3, v0, fun S6 e6 => ?_⟩) (fun i hi hx h2 => Or.inr ⟨rfl, ?_⟩) (fun hx => Or.inl ⟨rfl, ?_⟩)⟩
  · -- i hi hx h2 h8 S' H'
    have h6 : ∀ a, a ≠ x3 → zAt S' S6 a := fun a ha => by rw [e6]; exact zAt_sJ _ _ _ ha
    have hv : zJ S6 x3 (0 : Int32).toNatClampNeg = (nI (gPassA n w i a2 G)).toInt64 := by rw [e6]; exact zJ_at _ _ _ _
    obtain ⟨hC2, hM2⟩ := j_cls H' hM hJ h6
    refine ⟨z7, m_passAll hM2 hW (by omega) (by omega) (fun i' hi' hx' h2' S'' H'' => ?_) (fun i' hi' hx' h2' S'' H'' => ?_) (fun hx' S'' H'' => ?_)⟩
    · have e := nI_inj hn.2 hi hi' (hx.symm.trans hx')
      subst e
      obtain ⟨hL, hA⟩ := j_fin (k := k) hC2 H'' hJ (W_mono (W_pass hW hi (by omega) h8) (by omega) (Nat.le_refl _)) (by omega)
      exact j_tl z7 z3 hN ((mV_th H'').trans (by rw [sgT_9]; rfl)) (fun _ => by rw [hA.2.1]; exact hv) (hrec _ _ hL)
    · have e := nI_inj hn.2 hi hi' (hx.symm.trans hx')
      subst e
      exact absurd h2 h2'
    · subst hx
      exact (nI_bad hi (by omega) hx').elim
  · -- i hi hx h2
    obtain ⟨hC2, hM2⟩ := j_cls hC hM hJ (fun a _ => zAt_rf _ _)
    refine ⟨z7, m_passAll hM2 hW (by omega) (by omega) (fun i' hi' hx' h2' S'' H'' => ?_) (fun i' hi' hx' h2' S'' H'' => ?_) (fun hx' S'' H'' => ?_)⟩
    · have e := nI_inj hn.2 hi hi' (hx.symm.trans hx')
      subst e
      exact absurd h2' h2
    · obtain ⟨hL, hA⟩ := j_fin (k := k) hC2 H'' hJ (W_mono (hW) (by omega) (Nat.le_refl _)) (by omega)
      exact j_tl z7 z3 hN ((mV_th H'').trans (by rw [sgT_9]; rfl)) (fun z => absurd z (by decide)) (hrec _ _ hL)
    · subst hx
      exact (nI_bad hi (by omega) hx').elim
  · -- hx
    obtain ⟨hC2, hM2⟩ := j_cls hC hM hJ (fun a _ => zAt_rf _ _)
    refine ⟨z7, m_passAll hM2 hW (by omega) (by omega) (fun i' hi' hx' h2' S'' H'' => ?_) (fun i' hi' hx' h2' S'' H'' => ?_) (fun hx' S'' H'' => ?_)⟩
    · subst hx'
      exact (nI_bad hi' (by omega) hx).elim
    · subst hx'
      exact (nI_bad hi' (by omega) hx).elim
    · obtain ⟨hL, hA⟩ := j_fin (k := k) hC2 H'' hJ (W_mono (hW) (by omega) (Nat.le_refl _)) (by omega)
      exact j_tl z7 z3 hN ((mV_th H'').trans (by rw [sgT_9]; rfl)) (fun z => absurd z (by decide)) (hrec _ _ hL)
theorem r_part (hI : zLI x1 x2 x3 k Z S) (hk : k < 49) (hrec : ∀ Z' S', zLI x1 x2 x3 (k + 1) Z' S' → ∀ y, y = x4 + 6 → rec (k + 1) y Z' S') : w_L_part Z x1 a1 a2 S (fun (v86 : Int32) (S85 : zS) => zk Z x2 7 ∧ w_X7_part Z x2 a1 a2 S85 (fun (S88 : zS) => w_X7_thrown Z x2 S88 (fun (v90 : Int32) (S89 : zS) => ((v90 = v86 → ∀ y91 : Int32, y91 = x4 + 6 → rec (k + 1) y91 Z S89) ∧ (¬ v90 = v86 → False))))) := by
  obtain ⟨ad, ar, n, w, sg, G, l, hC, hM, hJ, ⟨rfl, rfl⟩, hW, hl⟩ := hI
  have hn := zCV_n hC
  have hw := (mV_n hM).2.2.2.2
  have z7 := mV_0 hM
  have z3 := hJ.2.2.1
  have hN := hJ.2.2.2.1
  have v0 := vp_01 hN
  unfold w_L_part
  refine ⟨hC.1.1.1, c_partAll hC (fun i g hi hx hg hy S' H' => ?_) (fun i hi hx hy => Or.inr ⟨rfl, ?_⟩) (fun hx => Or.inl ⟨rfl, ?_⟩)⟩
  · -- i g hi hx hg hy S' H'
    obtain ⟨hC2, hM2⟩ := j_cls H' hM hJ (fun a _ => zAt_rf _ _)
    refine ⟨z7, m_partAll hM2 hW (fun i' g' hi' hx' hg' hy' S'' H'' => ?_) (fun i' hi' hx' hy' S'' H'' => ?_) (fun hx' S'' H'' => ?_)⟩
    · have e := nI_inj hn.2 hi hi' (hx.symm.trans hx')
      subst e
      have e := nI_inj (n := 8) (by omega) hg hg' (hy.symm.trans hy')
      subst e
      obtain ⟨hL, hA⟩ := j_fin (k := k) hC2 H'' hJ (W_mono (W_part hW hi hg) (by omega) (Nat.le_refl _)) (by omega)
      exact j_tl0 z7 ((mV_th H'').trans (by rw [sgT_9]; rfl)) (hrec _ _ hL)
    · subst hy
      exact (nI_bad (m := 8) hg (by omega) hy').elim
    · subst hx
      exact (nI_bad hi (by omega) hx').elim
  · -- i hi hx hy
    obtain ⟨hC2, hM2⟩ := j_cls hC hM hJ (fun a _ => zAt_rf _ _)
    refine ⟨z7, m_partAll hM2 hW (fun i' g' hi' hx' hg' hy' S'' H'' => ?_) (fun i' hi' hx' hy' S'' H'' => ?_) (fun hx' S'' H'' => ?_)⟩
    · subst hy'
      exact (nI_bad (m := 8) hg' (by omega) hy).elim
    · obtain ⟨hL, hA⟩ := j_fin (k := k) hC2 H'' hJ (W_mono (hW) (by omega) (Nat.le_refl _)) (by omega)
      exact j_tl0 z7 ((mV_th H'').trans (by rw [sgT_9]; rfl)) (hrec _ _ hL)
    · subst hx
      exact (nI_bad hi (by omega) hx').elim
  · -- hx
    obtain ⟨hC2, hM2⟩ := j_cls hC hM hJ (fun a _ => zAt_rf _ _)
    refine ⟨z7, m_partAll hM2 hW (fun i' g' hi' hx' hg' hy' S'' H'' => ?_) (fun i' hi' hx' hy' S'' H'' => ?_) (fun hx' S'' H'' => ?_)⟩
    · subst hx'
      exact (nI_bad hi' (by omega) hx).elim
    · subst hx'
      exact (nI_bad hi' (by omega) hx).elim
    · obtain ⟨hL, hA⟩ := j_fin (k := k) hC2 H'' hJ (W_mono (hW) (by omega) (Nat.le_refl _)) (by omega)
      exact j_tl0 z7 ((mV_th H'').trans (by rw [sgT_9]; rfl)) (hrec _ _ hL)
theorem r_crash (hI : zLI x1 x2 x3 k Z S) (hk : k < 49) (hrec : ∀ Z' S', zLI x1 x2 x3 (k + 1) Z' S' → ∀ y, y = x4 + 6 → rec (k + 1) y Z' S') : w_L_crash Z x1 a1 S (fun (v96 : Int32) (S95 : zS) => zk Z x2 7 ∧ w_X7_crash Z x2 a1 S95 (fun (S98 : zS) => w_X7_thrown Z x2 S98 (fun (v100 : Int32) (S99 : zS) => ((v100 = v96 → ∀ y101 : Int32, y101 = x4 + 6 → rec (k + 1) y101 Z S99) ∧ (¬ v100 = v96 → False))))) := by
  obtain ⟨ad, ar, n, w, sg, G, l, hC, hM, hJ, ⟨rfl, rfl⟩, hW, hl⟩ := hI
  have hn := zCV_n hC
  have hw := (mV_n hM).2.2.2.2
  have z7 := mV_0 hM
  have z3 := hJ.2.2.1
  have hN := hJ.2.2.2.1
  have v0 := vp_01 hN
  have hb : ∀ j, j < n → (G.1 j).1 0 0 < 2 ^ 30 := fun j hj => by have := (hW.1 j hj).1.1; omega
  have h2 : ∀ r, (G.2 r).1 2 0 < 2 ^ 30 := fun r => by have := (hW.2.1 r).1.2.1; omega
  unfold w_L_crash
  refine ⟨hC.1.1.1, c_crashAll hC hb h2 (fun i hi hx hu S' H' => ?_) (fun i hi hx hu => Or.inr ⟨rfl, ?_⟩) (fun hx => Or.inl ⟨rfl, ?_⟩)⟩
  · -- i hi hx hu S' H'
    obtain ⟨hC2, hM2⟩ := j_cls H' hM hJ (fun a _ => zAt_rf _ _)
    refine ⟨z7, m_crashAll hM2 hW (fun i' hi' hx' hu' S'' H'' => ?_) (fun i' hi' hx' hu' S'' H'' => ?_) (fun hx' S'' H'' => ?_)⟩
    · have e := nI_inj hn.2 hi hi' (hx.symm.trans hx')
      subst e
      obtain ⟨hL, hA⟩ := j_fin (k := k) hC2 H'' hJ (W_mono (W_crash hW hi) (by omega) (Nat.le_refl _)) (by omega)
      exact j_tl0 z7 ((mV_th H'').trans (by rw [sgT_9]; rfl)) (hrec _ _ hL)
    · have e := nI_inj hn.2 hi hi' (hx.symm.trans hx')
      subst e
      exact absurd hu' hu
    · subst hx
      exact (nI_bad hi (by omega) hx').elim
  · -- i hi hx hu
    obtain ⟨hC2, hM2⟩ := j_cls hC hM hJ (fun a _ => zAt_rf _ _)
    refine ⟨z7, m_crashAll hM2 hW (fun i' hi' hx' hu' S'' H'' => ?_) (fun i' hi' hx' hu' S'' H'' => ?_) (fun hx' S'' H'' => ?_)⟩
    · have e := nI_inj hn.2 hi hi' (hx.symm.trans hx')
      subst e
      exact absurd hu hu'
    · obtain ⟨hL, hA⟩ := j_fin (k := k) hC2 H'' hJ (W_mono (hW) (by omega) (Nat.le_refl _)) (by omega)
      exact j_tl0 z7 ((mV_th H'').trans (by rw [sgT_9]; rfl)) (hrec _ _ hL)
    · subst hx
      exact (nI_bad hi (by omega) hx').elim
  · -- hx
    obtain ⟨hC2, hM2⟩ := j_cls hC hM hJ (fun a _ => zAt_rf _ _)
    refine ⟨z7, m_crashAll hM2 hW (fun i' hi' hx' hu' S'' H'' => ?_) (fun i' hi' hx' hu' S'' H'' => ?_) (fun hx' S'' H'' => ?_)⟩
    · subst hx'
      exact (nI_bad hi' (by omega) hx).elim
    · subst hx'
      exact (nI_bad hi' (by omega) hx).elim
    · obtain ⟨hL, hA⟩ := j_fin (k := k) hC2 H'' hJ (W_mono (hW) (by omega) (Nat.le_refl _)) (by omega)
      exact j_tl0 z7 ((mV_th H'').trans (by rw [sgT_9]; rfl)) (hrec _ _ hL)
theorem r_restart (hI : zLI x1 x2 x3 k Z S) (hk : k < 49) (hrec : ∀ Z' S', zLI x1 x2 x3 (k + 1) Z' S' → ∀ y, y = x4 + 6 → rec (k + 1) y Z' S') : w_L_restart Z x1 a1 S (fun (v106 : Int32) (S105 : zS) => zk Z x2 7 ∧ w_X7_restart Z x2 a1 S105 (fun (S108 : zS) => w_X7_thrown Z x2 S108 (fun (v110 : Int32) (S109 : zS) => ((v110 = v106 → ∀ y111 : Int32, y111 = x4 + 6 → rec (k + 1) y111 Z S109) ∧ (¬ v110 = v106 → False))))) := by
  obtain ⟨ad, ar, n, w, sg, G, l, hC, hM, hJ, ⟨rfl, rfl⟩, hW, hl⟩ := hI
  have hn := zCV_n hC
  have hw := (mV_n hM).2.2.2.2
  have z7 := mV_0 hM
  have z3 := hJ.2.2.1
  have hN := hJ.2.2.2.1
  have v0 := vp_01 hN
  have hb : ∀ j, j < n → (G.1 j).1 0 0 < 2 ^ 30 := fun j hj => by have := (hW.1 j hj).1.1; omega
  have h2 : ∀ r, (G.2 r).1 2 0 < 2 ^ 30 := fun r => by have := (hW.2.1 r).1.2.1; omega
  unfold w_L_restart
  refine ⟨hC.1.1.1, c_restartAll hC hb (fun i hi hx hu S' H' => ?_) (fun i hi hx hu => Or.inr ⟨rfl, ?_⟩) (fun hx => Or.inl ⟨rfl, ?_⟩)⟩
  · -- i hi hx hu S' H'
    obtain ⟨hC2, hM2⟩ := j_cls H' hM hJ (fun a _ => zAt_rf _ _)
    refine ⟨z7, m_restartAll hM2 hW (fun i' hi' hx' hu' S'' H'' => ?_) (fun i' hi' hx' hu' S'' H'' => ?_) (fun hx' S'' H'' => ?_)⟩
    · have e := nI_inj hn.2 hi hi' (hx.symm.trans hx')
      subst e
      obtain ⟨hL, hA⟩ := j_fin (k := k) hC2 H'' hJ (W_mono (W_restart hW hi) (by omega) (Nat.le_refl _)) (by omega)
      exact j_tl0 z7 ((mV_th H'').trans (by rw [sgT_9]; rfl)) (hrec _ _ hL)
    · have e := nI_inj hn.2 hi hi' (hx.symm.trans hx')
      subst e
      exact absurd hu hu'
    · subst hx
      exact (nI_bad hi (by omega) hx').elim
  · -- i hi hx hu
    obtain ⟨hC2, hM2⟩ := j_cls hC hM hJ (fun a _ => zAt_rf _ _)
    refine ⟨z7, m_restartAll hM2 hW (fun i' hi' hx' hu' S'' H'' => ?_) (fun i' hi' hx' hu' S'' H'' => ?_) (fun hx' S'' H'' => ?_)⟩
    · have e := nI_inj hn.2 hi hi' (hx.symm.trans hx')
      subst e
      exact absurd hu' hu
    · obtain ⟨hL, hA⟩ := j_fin (k := k) hC2 H'' hJ (W_mono (hW) (by omega) (Nat.le_refl _)) (by omega)
      exact j_tl0 z7 ((mV_th H'').trans (by rw [sgT_9]; rfl)) (hrec _ _ hL)
    · subst hx
      exact (nI_bad hi (by omega) hx').elim
  · -- hx
    obtain ⟨hC2, hM2⟩ := j_cls hC hM hJ (fun a _ => zAt_rf _ _)
    refine ⟨z7, m_restartAll hM2 hW (fun i' hi' hx' hu' S'' H'' => ?_) (fun i' hi' hx' hu' S'' H'' => ?_) (fun hx' S'' H'' => ?_)⟩
    · subst hx'
      exact (nI_bad hi' (by omega) hx).elim
    · subst hx'
      exact (nI_bad hi' (by omega) hx).elim
    · obtain ⟨hL, hA⟩ := j_fin (k := k) hC2 H'' hJ (W_mono (hW) (by omega) (Nat.le_refl _)) (by omega)
      exact j_tl0 z7 ((mV_th H'').trans (by rw [sgT_9]; rfl)) (hrec _ _ hL)
theorem r_about (hI : zLI x1 x2 x3 k Z S) (hk : k < 49) (hrec : ∀ Z' S', zLI x1 x2 x3 (k + 1) Z' S' → ∀ y, y = x4 + 6 → rec (k + 1) y Z' S') : w_L_about Z x1 a1 a2 x3 S (fun (v117 : Int32) (S116 : zS) => zk Z x2 7 ∧ w_X7_about Z x2 a1 a2 S116 (fun (v120 : Int32) (S119 : zS) => w_X7_thrown Z x2 S119 (fun (v122 : Int32) (S121 : zS) => ((v122 = v117 → ((¬ v117 = 0 → ∀ y123 : Int32, y123 = x4 + 6 → rec (k + 1) y123 Z S121) ∧ (v117 = 0 → zk Z x3 9 ∧ vp_in 0 (zN Z x3) ∧ (((lg_cmp (zJ S121 x3 (0 : Int32).toNatClampNeg) ((v120 : Int32).toInt64)) = 0 → ∀ y126 : Int32, y126 = x4 + 6 → rec (k + 1) y126 Z S121) ∧ (¬ (lg_cmp (zJ S121 x3 (0 : Int32).toNatClampNeg) ((v120 : Int32).toInt64)) = 0 → False))))) ∧ (¬ v122 = v117 → False))))) := by
  obtain ⟨ad, ar, n, w, sg, G, l, hC, hM, hJ, ⟨rfl, rfl⟩, hW, hl⟩ := hI
  have hn := zCV_n hC
  have hw := (mV_n hM).2.2.2.2
  have z7 := mV_0 hM
  have z3 := hJ.2.2.1
  have hN := hJ.2.2.2.1
  have v0 := vp_01 hN
  have hb : ∀ j, j < n → (G.1 j).1 0 0 < 2 ^ 30 := fun j hj => by have := (hW.1 j hj).1.1; omega
  have h2 : ∀ r, (G.2 r).1 2 0 < 2 ^ 30 := fun r => by have := (hW.2.1 r).1.2.1; omega
  unfold w_L_about
  refine ⟨hC.1.1.1, c_aboutAll hC hb h2 (fun i q hi hx hq hy => ⟨z3, v0, fun S6 e6 => ?_⟩) (fun i hi hx hy => Or.inr ⟨rfl, ?_⟩) (fun hx => Or.inl ⟨rfl, ?_⟩)⟩
  · -- i q hi hx hq hy
    have h6 : ∀ a, a ≠ x3 → zAt S S6 a := fun a ha => by rw [e6]; exact zAt_sJ _ _ _ ha
    have hv : zJ S6 x3 (0 : Int32).toNatClampNeg = (nI (gAbout G i q)).toInt64 := by rw [e6]; exact zJ_at _ _ _ _
    obtain ⟨hC2, hM2⟩ := j_cls hC hM hJ h6
    refine ⟨z7, m_aboutAll hM2 hW (fun i' q' hi' hx' hq' hy' S'' H'' => ?_) (fun i' hi' hx' hy' S'' H'' => ?_) (fun hx' S'' H'' => ?_)⟩
    · have e := nI_inj hn.2 hi hi' (hx.symm.trans hx')
      subst e
      have e := (nI_eq (by omega) (by omega)).mp (hy.symm.trans hy')
      subst e
      obtain ⟨hL, hA⟩ := j_fin (k := k) hC2 H'' hJ (W_mono (hW) (by omega) (Nat.le_refl _)) (by omega)
      exact j_tl z7 z3 hN ((mV_th H'').trans (by rw [sgT_9]; rfl)) (fun _ => by rw [hA.2.1]; exact hv) (hrec _ _ hL)
    · subst hy
      exact (nI_bad (m := 14) hq (by omega) hy').elim
    · subst hx
      exact (nI_bad hi (by omega) hx').elim
  · -- i hi hx hy
    obtain ⟨hC2, hM2⟩ := j_cls hC hM hJ (fun a _ => zAt_rf _ _)
    refine ⟨z7, m_aboutAll hM2 hW (fun i' q' hi' hx' hq' hy' S'' H'' => ?_) (fun i' hi' hx' hy' S'' H'' => ?_) (fun hx' S'' H'' => ?_)⟩
    · exact absurd hy' (hy q' hq')
    · obtain ⟨hL, hA⟩ := j_fin (k := k) hC2 H'' hJ (W_mono (hW) (by omega) (Nat.le_refl _)) (by omega)
      exact j_tl z7 z3 hN ((mV_th H'').trans (by rw [sgT_9]; rfl)) (fun z => absurd z (by decide)) (hrec _ _ hL)
    · subst hx
      exact (nI_bad hi (by omega) hx').elim
  · -- hx
    obtain ⟨hC2, hM2⟩ := j_cls hC hM hJ (fun a _ => zAt_rf _ _)
    refine ⟨z7, m_aboutAll hM2 hW (fun i' q' hi' hx' hq' hy' S'' H'' => ?_) (fun i' hi' hx' hy' S'' H'' => ?_) (fun hx' S'' H'' => ?_)⟩
    · subst hx'
      exact (nI_bad hi' (by omega) hx).elim
    · subst hx'
      exact (nI_bad hi' (by omega) hx).elim
    · obtain ⟨hL, hA⟩ := j_fin (k := k) hC2 H'' hJ (W_mono (hW) (by omega) (Nat.le_refl _)) (by omega)
      exact j_tl z7 z3 hN ((mV_th H'').trans (by rw [sgT_9]; rfl)) (fun z => absurd z (by decide)) (hrec _ _ hL)
theorem r_table (hI : zLI x1 x2 x3 k Z S) (hk : k < 49) (hrec : ∀ Z' S', zLI x1 x2 x3 (k + 1) Z' S' → ∀ y, y = x4 + 6 → rec (k + 1) y Z' S') : w_L_table Z x1 a1 a2 x3 S (fun (v134 : Int32) (S133 : zS) => zk Z x2 7 ∧ w_X7_table Z x2 a1 a2 S133 (fun (v137 : Int64) (S136 : zS) => w_X7_thrown Z x2 S136 (fun (v139 : Int32) (S138 : zS) => ((v139 = v134 → ((¬ v134 = 0 → ∀ y140 : Int32, y140 = x4 + 6 → rec (k + 1) y140 Z S138) ∧ (v134 = 0 → zk Z x3 9 ∧ vp_in 0 (zN Z x3) ∧ (((lg_cmp (zJ S138 x3 (0 : Int32).toNatClampNeg) v137) = 0 → ∀ y143 : Int32, y143 = x4 + 6 → rec (k + 1) y143 Z S138) ∧ (¬ (lg_cmp (zJ S138 x3 (0 : Int32).toNatClampNeg) v137) = 0 → False))))) ∧ (¬ v139 = v134 → False))))) := by
  obtain ⟨ad, ar, n, w, sg, G, l, hC, hM, hJ, ⟨rfl, rfl⟩, hW, hl⟩ := hI
  have hn := zCV_n hC
  have hw := (mV_n hM).2.2.2.2
  have z7 := mV_0 hM
  have z3 := hJ.2.2.1
  have hN := hJ.2.2.2.1
  have v0 := vp_01 hN
  unfold w_L_table
  refine ⟨hC.1.1.1, c_tableAll hC (fun i q hi hx hq hy => ⟨z3, v0, fun S6 e6 => ?_⟩) (fun hx => ⟨rfl, ?_⟩) (fun i hi hx hy => ⟨rfl, ?_⟩)⟩
  · -- i q hi hx hq hy
    have h6 : ∀ a, a ≠ x3 → zAt S S6 a := fun a ha => by rw [e6]; exact zAt_sJ _ _ _ ha
    have hv : zJ S6 x3 (0 : Int32).toNatClampNeg = (G.1 i).2 1 q := by rw [e6]; exact zJ_at _ _ _ _
    obtain ⟨hC2, hM2⟩ := j_cls hC hM hJ h6
    refine ⟨z7, m_tableAll hM2 hW (fun i' q' hi' hx' hq' hy' S'' H'' => ?_) (fun hx' S'' H'' => ?_) (fun i' hi' hx' hy' S'' H'' => ?_)⟩
    · have e := nI_inj hn.2 hi hi' (hx.symm.trans hx')
      subst e
      have e := (nI_eq (by omega) (by omega)).mp (hy.symm.trans hy')
      subst e
      obtain ⟨hL, hA⟩ := j_fin (k := k) hC2 H'' hJ (W_mono (hW) (by omega) (Nat.le_refl _)) (by omega)
      exact j_tl z7 z3 hN ((mV_th H'').trans (by rw [sgT_9]; rfl)) (fun _ => by rw [hA.2.1]; exact hv) (hrec _ _ hL)
    · subst hx
      exact (nI_bad hi (by omega) hx').elim
    · subst hy
      exact (nI_bad (m := 16) hq (by omega) hy').elim
  · -- hx
    obtain ⟨hC2, hM2⟩ := j_cls hC hM hJ (fun a _ => zAt_rf _ _)
    refine ⟨z7, m_tableAll hM2 hW (fun i' q' hi' hx' hq' hy' S'' H'' => ?_) (fun hx' S'' H'' => ?_) (fun i' hi' hx' hy' S'' H'' => ?_)⟩
    · subst hx'
      exact (nI_bad hi' (by omega) hx).elim
    · obtain ⟨hL, hA⟩ := j_fin (k := k) hC2 H'' hJ (W_mono (hW) (by omega) (Nat.le_refl _)) (by omega)
      exact j_tl z7 z3 hN ((mV_th H'').trans (by rw [sgT_9]; rfl)) (fun z => absurd z (by decide)) (hrec _ _ hL)
    · subst hx'
      exact (nI_bad hi' (by omega) hx).elim
  · -- i hi hx hy
    obtain ⟨hC2, hM2⟩ := j_cls hC hM hJ (fun a _ => zAt_rf _ _)
    refine ⟨z7, m_tableAll hM2 hW (fun i' q' hi' hx' hq' hy' S'' H'' => ?_) (fun hx' S'' H'' => ?_) (fun i' hi' hx' hy' S'' H'' => ?_)⟩
    · subst hy'
      exact (nI_bad (m := 16) hq' (by omega) hy).elim
    · subst hx
      exact (nI_bad hi (by omega) hx').elim
    · obtain ⟨hL, hA⟩ := j_fin (k := k) hC2 H'' hJ (W_mono (hW) (by omega) (Nat.le_refl _)) (by omega)
      exact j_tl z7 z3 hN ((mV_th H'').trans (by rw [sgT_9]; rfl)) (fun z => absurd z (by decide)) (hrec _ _ hL)
theorem r_mark (hI : zLI x1 x2 x3 k Z S) (hk : k < 49) (hrec : ∀ Z' S', zLI x1 x2 x3 (k + 1) Z' S' → ∀ y, y = x4 + 6 → rec (k + 1) y Z' S') : w_L_mark Z x1 a1 x3 S (fun (v150 : Int32) (S149 : zS) => zk Z x2 7 ∧ w_X7_mark Z x2 a1 S149 (fun (v153 : Int64) (S152 : zS) => w_X7_thrown Z x2 S152 (fun (v155 : Int32) (S154 : zS) => ((v155 = v150 → ((¬ v150 = 0 → ∀ y156 : Int32, y156 = x4 + 6 → rec (k + 1) y156 Z S154) ∧ (v150 = 0 → zk Z x3 9 ∧ vp_in 0 (zN Z x3) ∧ (((lg_cmp (zJ S154 x3 (0 : Int32).toNatClampNeg) v153) = 0 → ∀ y159 : Int32, y159 = x4 + 6 → rec (k + 1) y159 Z S154) ∧ (¬ (lg_cmp (zJ S154 x3 (0 : Int32).toNatClampNeg) v153) = 0 → False))))) ∧ (¬ v155 = v150 → False))))) := by
  obtain ⟨ad, ar, n, w, sg, G, l, hC, hM, hJ, ⟨rfl, rfl⟩, hW, hl⟩ := hI
  have hn := zCV_n hC
  have hw := (mV_n hM).2.2.2.2
  have z7 := mV_0 hM
  have z3 := hJ.2.2.1
  have hN := hJ.2.2.2.1
  have v0 := vp_01 hN
  unfold w_L_mark
  refine ⟨hC.1.1.1, c_markAll hC (fun i hi hx => ⟨z3, v0, fun S6 e6 => ?_⟩) (fun hx => ⟨rfl, ?_⟩)⟩
  · -- i hi hx
    have h6 : ∀ a, a ≠ x3 → zAt S S6 a := fun a ha => by rw [e6]; exact zAt_sJ _ _ _ ha
    have hv : zJ S6 x3 (0 : Int32).toNatClampNeg = (G.1 i).2 0 0 := by rw [e6]; exact zJ_at _ _ _ _
    obtain ⟨hC2, hM2⟩ := j_cls hC hM hJ h6
    refine ⟨z7, m_markAll hM2 hW (fun i' hi' hx' S'' H'' => ?_) (fun hx' S'' H'' => ?_)⟩
    · have e := nI_inj hn.2 hi hi' (hx.symm.trans hx')
      subst e
      obtain ⟨hL, hA⟩ := j_fin (k := k) hC2 H'' hJ (W_mono (hW) (by omega) (Nat.le_refl _)) (by omega)
      exact j_tl z7 z3 hN ((mV_th H'').trans (by rw [sgT_9]; rfl)) (fun _ => by rw [hA.2.1]; exact hv) (hrec _ _ hL)
    · subst hx
      exact (nI_bad hi (by omega) hx').elim
  · -- hx
    obtain ⟨hC2, hM2⟩ := j_cls hC hM hJ (fun a _ => zAt_rf _ _)
    refine ⟨z7, m_markAll hM2 hW (fun i' hi' hx' S'' H'' => ?_) (fun hx' S'' H'' => ?_)⟩
    · subst hx'
      exact (nI_bad hi' (by omega) hx).elim
    · obtain ⟨hL, hA⟩ := j_fin (k := k) hC2 H'' hJ (W_mono (hW) (by omega) (Nat.le_refl _)) (by omega)
      exact j_tl z7 z3 hN ((mV_th H'').trans (by rw [sgT_9]; rfl)) (fun z => absurd z (by decide)) (hrec _ _ hL)
theorem r_entry (hI : zLI x1 x2 x3 k Z S) (hk : k < 49) (hrec : ∀ Z' S', zLI x1 x2 x3 (k + 1) Z' S' → ∀ y, y = x4 + 6 → rec (k + 1) y Z' S') : w_L_entry Z x1 a1 a2 a3 x3 S (fun (v168 : Int32) (S167 : zS) => zk Z x2 7 ∧ w_X7_entry Z x2 a1 a2 a3 S167 (fun (v171 : Int64) (S170 : zS) => w_X7_thrown Z x2 S170 (fun (v173 : Int32) (S172 : zS) => ((v173 = v168 → ((¬ v168 = 0 → ∀ y174 : Int32, y174 = x4 + 6 → rec (k + 1) y174 Z S172) ∧ (v168 = 0 → zk Z x3 9 ∧ vp_in 0 (zN Z x3) ∧ (((lg_cmp (zJ S172 x3 (0 : Int32).toNatClampNeg) v171) = 0 → ∀ y177 : Int32, y177 = x4 + 6 → rec (k + 1) y177 Z S172) ∧ (¬ (lg_cmp (zJ S172 x3 (0 : Int32).toNatClampNeg) v171) = 0 → False))))) ∧ (¬ v173 = v168 → False))))) := by
  obtain ⟨ad, ar, n, w, sg, G, l, hC, hM, hJ, ⟨rfl, rfl⟩, hW, hl⟩ := hI
  have hn := zCV_n hC
  have hw := (mV_n hM).2.2.2.2
  have z7 := mV_0 hM
  have z3 := hJ.2.2.1
  have hN := hJ.2.2.2.1
  have v0 := vp_01 hN
  unfold w_L_entry
  refine ⟨hC.1.1.1, c_entryAll hC (fun j hj => by have := (hW.2.2.1.1 j hj).2.2.2; omega) (fun i q f hi hx hq hy hf hz => ⟨z3, v0, fun S6 e6 => ?_⟩) (fun i q hi hx hq hy hz => Or.inr ⟨rfl, ?_⟩) (fun hx => Or.inl ⟨rfl, ?_⟩) (fun i hi hx hy => Or.inl ⟨rfl, ?_⟩)⟩
  · -- i q f hi hx hq hy hf hz
    have h6 : ∀ a, a ≠ x3 → zAt S S6 a := fun a ha => by rw [e6]; exact zAt_sJ _ _ _ ha
    have hv : zJ S6 x3 (0 : Int32).toNatClampNeg = gEntry (G.1 i) q f := by rw [e6]; exact zJ_at _ _ _ _
    obtain ⟨hC2, hM2⟩ := j_cls hC hM hJ h6
    refine ⟨z7, m_entryAll hM2 hW (by omega) (fun i' q' f' hi' hx' hq' hy' hf' hz' S'' H'' => ?_) (fun i' q' hi' hx' hq' hy' hz' S'' H'' => ?_) (fun hx' S'' H'' => ?_) (fun i' hi' hx' hy' S'' H'' => ?_)⟩
    · have e := nI_inj hn.2 hi hi' (hx.symm.trans hx')
      subst e
      have e := (nI_eq (by omega) (by omega)).mp (hy.symm.trans hy')
      subst e
      have e := (nI_eq (by omega) (by omega)).mp (hz.symm.trans hz')
      subst e
      obtain ⟨hL, hA⟩ := j_fin (k := k) hC2 H'' hJ (W_mono (hW) (by omega) (Nat.le_refl _)) (by omega)
      exact j_tl z7 z3 hN ((mV_th H'').trans (by rw [sgT_9]; rfl)) (fun _ => by rw [hA.2.1]; exact hv) (hrec _ _ hL)
    · subst hz
      exact (nI_bad (m := 6) hf (by omega) hz').elim
    · subst hx
      exact (nI_bad hi (by omega) hx').elim
    · have e := nI_inj hn.2 hi hi' (hx.symm.trans hx')
      subst e
      subst hy
      exact (nI_bad hq (by omega) hy').elim
  · -- i q hi hx hq hy hz
    obtain ⟨hC2, hM2⟩ := j_cls hC hM hJ (fun a _ => zAt_rf _ _)
    refine ⟨z7, m_entryAll hM2 hW (by omega) (fun i' q' f' hi' hx' hq' hy' hf' hz' S'' H'' => ?_) (fun i' q' hi' hx' hq' hy' hz' S'' H'' => ?_) (fun hx' S'' H'' => ?_) (fun i' hi' hx' hy' S'' H'' => ?_)⟩
    · subst hz'
      exact (nI_bad (m := 6) hf' (by omega) hz).elim
    · obtain ⟨hL, hA⟩ := j_fin (k := k) hC2 H'' hJ (W_mono (hW) (by omega) (Nat.le_refl _)) (by omega)
      exact j_tl z7 z3 hN ((mV_th H'').trans (by rw [sgT_9]; rfl)) (fun z => absurd z (by decide)) (hrec _ _ hL)
    · subst hx
      exact (nI_bad hi (by omega) hx').elim
    · have e := nI_inj hn.2 hi hi' (hx.symm.trans hx')
      subst e
      subst hy
      exact (nI_bad hq (by omega) hy').elim
  · -- hx
    obtain ⟨hC2, hM2⟩ := j_cls hC hM hJ (fun a _ => zAt_rf _ _)
    refine ⟨z7, m_entryAll hM2 hW (by omega) (fun i' q' f' hi' hx' hq' hy' hf' hz' S'' H'' => ?_) (fun i' q' hi' hx' hq' hy' hz' S'' H'' => ?_) (fun hx' S'' H'' => ?_) (fun i' hi' hx' hy' S'' H'' => ?_)⟩
    · subst hx'
      exact (nI_bad hi' (by omega) hx).elim
    · subst hx'
      exact (nI_bad hi' (by omega) hx).elim
    · obtain ⟨hL, hA⟩ := j_fin (k := k) hC2 H'' hJ (W_mono (hW) (by omega) (Nat.le_refl _)) (by omega)
      exact j_tl z7 z3 hN ((mV_th H'').trans (by rw [sgT_9]; rfl)) (fun z => absurd z (by decide)) (hrec _ _ hL)
    · subst hx'
      exact (nI_bad hi' (by omega) hx).elim
  · -- i hi hx hy
    obtain ⟨hC2, hM2⟩ := j_cls hC hM hJ (fun a _ => zAt_rf _ _)
    refine ⟨z7, m_entryAll hM2 hW (by omega) (fun i' q' f' hi' hx' hq' hy' hf' hz' S'' H'' => ?_) (fun i' q' hi' hx' hq' hy' hz' S'' H'' => ?_) (fun hx' S'' H'' => ?_) (fun i' hi' hx' hy' S'' H'' => ?_)⟩
    · have e := nI_inj hn.2 hi hi' (hx.symm.trans hx')
      subst e
      subst hy'
      exact (nI_bad hq' (by omega) hy).elim
    · have e := nI_inj hn.2 hi hi' (hx.symm.trans hx')
      subst e
      subst hy'
      exact (nI_bad hq' (by omega) hy).elim
    · subst hx
      exact (nI_bad hi (by omega) hx').elim
    · obtain ⟨hL, hA⟩ := j_fin (k := k) hC2 H'' hJ (W_mono (hW) (by omega) (Nat.le_refl _)) (by omega)
      exact j_tl z7 z3 hN ((mV_th H'').trans (by rw [sgT_9]; rfl)) (fun z => absurd z (by decide)) (hrec _ _ hL)
theorem r_primary (hI : zLI x1 x2 x3 k Z S) (hk : k < 49) (hrec : ∀ Z' S', zLI x1 x2 x3 (k + 1) Z' S' → ∀ y, y = x4 + 6 → rec (k + 1) y Z' S') : w_L_primary Z x1 a1 x3 S (fun (v184 : Int32) (S183 : zS) => zk Z x2 7 ∧ w_X7_primary Z x2 a1 S183 (fun (v187 : Int32) (S186 : zS) => w_X7_thrown Z x2 S186 (fun (v189 : Int32) (S188 : zS) => ((v189 = v184 → ((¬ v184 = 0 → ∀ y190 : Int32, y190 = x4 + 6 → rec (k + 1) y190 Z S188) ∧ (v184 = 0 → zk Z x3 9 ∧ vp_in 0 (zN Z x3) ∧ ((v187 = 0 → (((lg_cmp (zJ S188 x3 (0 : Int32).toNatClampNeg) 0) = 0 → ∀ y193 : Int32, y193 = x4 + 6 → rec (k + 1) y193 Z S188) ∧ (¬ (lg_cmp (zJ S188 x3 (0 : Int32).toNatClampNeg) 0) = 0 → False))) ∧ (¬ v187 = 0 → (((lg_cmp (zJ S188 x3 (0 : Int32).toNatClampNeg) 1) = 0 → ∀ y195 : Int32, y195 = x4 + 6 → rec (k + 1) y195 Z S188) ∧ (¬ (lg_cmp (zJ S188 x3 (0 : Int32).toNatClampNeg) 1) = 0 → False))))))) ∧ (¬ v189 = v184 → False))))) := by
  obtain ⟨ad, ar, n, w, sg, G, l, hC, hM, hJ, ⟨rfl, rfl⟩, hW, hl⟩ := hI
  have hn := zCV_n hC
  have z7 := mV_0 hM
  have z3 := hJ.2.2.1
  have hN := hJ.2.2.2.1
  have v0 := vp_01 hN
  unfold w_L_primary
  refine ⟨hC.1.1.1, c_primAll hC (fun r => by have := hW.2.2.1.2 r; omega) (fun j hj => by have := (hW.2.2.1.1 j hj).2.1; omega) (fun i hi hx => ?_) (fun hx => ⟨rfl, ?_⟩)⟩
  · have key : ∀ (c : Int64) (S6 : zS), S6 = zsJ S x3 (0 : Int32).toNatClampNeg c → c = (if prim (G.1 i) (G.2 ((G.1 i).1 2 0)) = true then 1 else 0) → zk Z (ar 0) 7 ∧ w_X7_primary Z (ar 0) a1 S6 (fun (v187 : Int32) (S186 : zS) => w_X7_thrown Z (ar 0) S186 (fun (v189 : Int32) (S188 : zS) => ((v189 = (0 : Int32) → ((¬ (0 : Int32) = 0 → ∀ y190 : Int32, y190 = x4 + 6 → rec (k + 1) y190 Z S188) ∧ ((0 : Int32) = 0 → zk Z x3 9 ∧ vp_in 0 (zN Z x3) ∧ ((v187 = 0 → (((lg_cmp (zJ S188 x3 (0 : Int32).toNatClampNeg) 0) = 0 → ∀ y193 : Int32, y193 = x4 + 6 → rec (k + 1) y193 Z S188) ∧ (¬ (lg_cmp (zJ S188 x3 (0 : Int32).toNatClampNeg) 0) = 0 → False))) ∧ (¬ v187 = 0 → (((lg_cmp (zJ S188 x3 (0 : Int32).toNatClampNeg) 1) = 0 → ∀ y195 : Int32, y195 = x4 + 6 → rec (k + 1) y195 Z S188) ∧ (¬ (lg_cmp (zJ S188 x3 (0 : Int32).toNatClampNeg) 1) = 0 → False))))))) ∧ (¬ v189 = (0 : Int32) → False)))) := fun c S6 e6 hc => by
      have h6 : ∀ a, a ≠ x3 → zAt S S6 a := fun a ha => by rw [e6]; exact zAt_sJ _ _ _ ha
      have hv : zJ S6 x3 (0 : Int32).toNatClampNeg = c := by rw [e6]; exact zJ_at _ _ _ _
      obtain ⟨hC2, hM2⟩ := j_cls hC hM hJ h6
      refine ⟨z7, m_primAll hM2 hW (by omega) (fun i' hi' hx' S'' H'' => ?_) (fun hx' S'' H'' => ?_)⟩
      · have e := nI_inj hn.2 hi hi' (hx.symm.trans hx')
        subst e
        obtain ⟨hL, hA⟩ := j_fin (k := k) hC2 H'' hJ (W_mono hW (by omega) (Nat.le_refl _)) (by omega)
        have hcc : zJ S'' x3 (0 : Int32).toNatClampNeg = (if prim (G.1 i) (G.2 ((G.1 i).1 2 0)) = true then 1 else 0) := by rw [hA.2.1, hv, hc]
        refine ⟨z7, fun _ => ⟨fun z => absurd rfl z, fun _ => ⟨z3, v0, fun q => ⟨fun _ => hrec _ _ hL, fun z => absurd ?_ z⟩, fun q => ⟨fun _ => hrec _ _ hL, fun z => absurd ?_ z⟩⟩⟩, fun z => absurd ((mV_th H'').trans (by rw [sgT_9]; rfl)) z⟩
        · rw [hcc, z01_if.mp q, if_neg (by decide)]
          exact lcmp_self _
        · rw [hcc, if_pos (z01_t q)]
          exact lcmp_self _
      · subst hx
        exact (nI_bad hi (by omega) hx').elim
    exact ⟨fun q => ⟨z3, v0, fun S6 e6 => key 0 S6 e6 (by rw [z01_if.mp q, if_neg (by decide)])⟩, fun q => ⟨z3, v0, fun S6 e6 => key 1 S6 e6 (by rw [if_pos (z01_t q)])⟩⟩
  · obtain ⟨hC2, hM2⟩ := j_cls hC hM hJ (fun a _ => zAt_rf _ _)
    refine ⟨z7, m_primAll hM2 hW (by omega) (fun i' hi' hx' S'' H'' => ?_) (fun hx' S'' H'' => ?_)⟩
    · subst hx'
      exact (nI_bad hi' (by omega) hx).elim
    · obtain ⟨hL, hA⟩ := j_fin (k := k) hC2 H'' hJ (W_mono hW (by omega) (Nat.le_refl _)) (by omega)
      exact ⟨z7, fun _ => ⟨fun _ => hrec _ _ hL, fun z => absurd z (by decide)⟩, fun z => absurd ((mV_th H'').trans (by rw [sgT_9]; rfl)) z⟩
theorem r_gather (hI : zLI x1 x2 x3 k Z S) (hk : k < 49) (hrec : ∀ Z' S', zLI x1 x2 x3 (k + 1) Z' S' → ∀ y, y = x4 + 6 → rec (k + 1) y Z' S') : w_L_gather Z x1 a1 x3 S (fun (v69 : Int32) (S68 : zS) => zk Z x2 7 ∧ w_X7_gather Z x2 a1 S68 (fun (v72 : Int32) (S71 : zS) => w_X7_thrown Z x2 S71 (fun (v74 : Int32) (S73 : zS) => ((v74 = v69 → ((¬ v69 = 0 → ∀ y75 : Int32, y75 = x4 + 6 → rec (k + 1) y75 Z S73) ∧ (v69 = 0 → zk Z x3 9 ∧ vp_in 0 (zN Z x3) ∧ (((lg_cmp (zJ S73 x3 (0 : Int32).toNatClampNeg) ((v72 : Int32).toInt64)) = 0 → ∀ y78 : Int32, y78 = x4 + 6 → rec (k + 1) y78 Z S73) ∧ (¬ (lg_cmp (zJ S73 x3 (0 : Int32).toNatClampNeg) ((v72 : Int32).toInt64)) = 0 → False))))) ∧ (¬ v74 = v69 → False))))) := by
  obtain ⟨ad, ar, n, w, sg, G, l, hC, hM, hJ, ⟨rfl, rfl⟩, hW, hl⟩ := hI
  have hn := zCV_n hC
  have z7 := mV_0 hM
  have z3 := hJ.2.2.1
  have hN := hJ.2.2.2.1
  have v0 := vp_01 hN
  unfold w_L_gather
  refine ⟨hC.1.1.1, c_gatherAll hC hW (by omega) (by omega) (fun i hi hx hu hwh => ⟨z3, v0, fun S6 e6 => ?_⟩) (fun i c b r hi hx hu hwh hc hb hbf hr hno S' H' => ⟨z3, v0, fun S6 e6 => ?_⟩) (fun i hi hx hu => Or.inr ⟨rfl, ?_⟩) (fun hx => Or.inl ⟨rfl, ?_⟩)⟩
  · have h6 : ∀ a, a ≠ x3 → zAt S S6 a := fun a ha => by rw [e6]; exact zAt_sJ _ _ _ ha
    have hv : zJ S6 x3 (0 : Int32).toNatClampNeg = ((0 : Int32)).toInt64 := by rw [e6]; exact zJ_at _ _ _ _
    obtain ⟨hC2, hM2⟩ := j_cls hC hM hJ h6
    refine ⟨z7, m_gatherAll hM2 hW (by omega) (by omega) (fun i' hi' hx' hu' hwh' S'' H'' => ?_) (fun i' hi' hx' hu' hwh' => ?_) (fun i' hi' hx' hu' S'' H'' => ?_) (fun hx' S'' H'' => ?_)⟩
    · obtain ⟨hL, hA⟩ := j_fin (k := k) hC2 H'' hJ (W_mono hW (by omega) (Nat.le_refl _)) (by omega)
      exact j_tl z7 z3 hN ((mV_th H'').trans (by rw [sgT_9]; rfl)) (fun _ => by rw [hA.2.1]; exact hv) (hrec _ _ hL)
    · have e := nI_inj hn.2 hi hi' (hx.symm.trans hx')
      subst e
      rw [hwh] at hwh'
      exact absurd hwh' (by decide)
    · have e := nI_inj hn.2 hi hi' (hx.symm.trans hx')
      subst e
      exact absurd hu' hu
    · subst hx
      exact (nI_bad hi (by omega) hx').elim
  · have h6 : ∀ a, a ≠ x3 → zAt S' S6 a := fun a ha => by rw [e6]; exact zAt_sJ _ _ _ ha
    have hv : zJ S6 x3 (0 : Int32).toNatClampNeg = (nI (hxf G (upSet G n ((G.1 i).1 1 0)) n + 1)).toInt64 := by rw [e6]; exact zJ_at _ _ _ _
    obtain ⟨hC2, hM2⟩ := j_cls H' hM hJ h6
    refine ⟨z7, m_gatherAll hM2 hW (by omega) (by omega) (fun i' hi' hx' hu' hwh' S'' H'' => ?_) (fun i' hi' hx' hu' hwh' => ?_) (fun i' hi' hx' hu' S'' H'' => ?_) (fun hx' S'' H'' => ?_)⟩
    · have e := nI_inj hn.2 hi hi' (hx.symm.trans hx')
      subst e
      rw [hwh] at hwh'
      exact absurd hwh' (by decide)
    · have e := nI_inj hn.2 hi hi' (hx.symm.trans hx')
      subst e
      refine ⟨c, b, r, hc, hb, hbf, hr, hno, fun S'' sg' h9 H'' => ?_⟩
      have hsb := fun j => upSet_bit G n ((G.1 i).1 1 0) j
      obtain ⟨hL, hA⟩ := j_fin (k := k) hC2 H'' hJ (W_gather hW hn.2 (mk_lt _ _) hr (fun j _ hj => ((hsb j).mp hj).2.1) hno hc hb rfl) (by omega)
      exact j_tl z7 z3 hN ((mV_th H'').trans (by rw [h9]; rfl)) (fun _ => by rw [hA.2.1]; exact hv) (hrec _ _ hL)
    · have e := nI_inj hn.2 hi hi' (hx.symm.trans hx')
      subst e
      exact absurd hu' hu
    · subst hx
      exact (nI_bad hi (by omega) hx').elim
  · obtain ⟨hC2, hM2⟩ := j_cls hC hM hJ (fun a _ => zAt_rf _ _)
    refine ⟨z7, m_gatherAll hM2 hW (by omega) (by omega) (fun i' hi' hx' hu' hwh' S'' H'' => ?_) (fun i' hi' hx' hu' hwh' => ?_) (fun i' hi' hx' hu' S'' H'' => ?_) (fun hx' S'' H'' => ?_)⟩
    · have e := nI_inj hn.2 hi hi' (hx.symm.trans hx')
      subst e
      exact absurd hu hu'
    · have e := nI_inj hn.2 hi hi' (hx.symm.trans hx')
      subst e
      exact absurd hu hu'
    · obtain ⟨hL, hA⟩ := j_fin (k := k) hC2 H'' hJ (W_mono hW (by omega) (Nat.le_refl _)) (by omega)
      exact j_tl z7 z3 hN ((mV_th H'').trans (by rw [sgT_9]; rfl)) (fun z => absurd z (by decide)) (hrec _ _ hL)
    · subst hx
      exact (nI_bad hi (by omega) hx').elim
  · obtain ⟨hC2, hM2⟩ := j_cls hC hM hJ (fun a _ => zAt_rf _ _)
    refine ⟨z7, m_gatherAll hM2 hW (by omega) (by omega) (fun i' hi' hx' hu' hwh' S'' H'' => ?_) (fun i' hi' hx' hu' hwh' => ?_) (fun i' hi' hx' hu' S'' H'' => ?_) (fun hx' S'' H'' => ?_)⟩
    · subst hx'
      exact (nI_bad hi' (by omega) hx).elim
    · subst hx'
      exact (nI_bad hi' (by omega) hx).elim
    · subst hx'
      exact (nI_bad hi' (by omega) hx).elim
    · obtain ⟨hL, hA⟩ := j_fin (k := k) hC2 H'' hJ (W_mono hW (by omega) (Nat.le_refl _)) (by omega)
      exact j_tl z7 z3 hN ((mV_th H'').trans (by rw [sgT_9]; rfl)) (fun z => absurd z (by decide)) (hrec _ _ hL)
end
