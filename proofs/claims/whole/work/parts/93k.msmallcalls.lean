/-! the reference's small calls -/
section
variable {Z : zZ} {S0 S : zS} {ar : Nat → Nat} {n w : Nat} {sg : Nat → Nat} {u u' : Nat → Nat → Bool} {G : gT} {i : Nat} {N : nT} {r t l : Nat}
theorem thr0 : ¬ ¬ ((nI 0 : Int32) = 0) := fun h => h rfl
theorem thr_n0 {v : Nat} (hv : v < 10) (h0 : v ≠ 0) : ¬ (nI v = 0) := nI_ne0 (by omega) (by omega)
theorem m_partAll (H : zMV Z S0 ar n w sg uZ S G) (h : gW n G t l) {x y : Int32} {Qp : zS → Prop} (k1 : ∀ i g, i < n → x = nI i → g < 8 → y = nI g → ∀ S', zMV Z S0 ar n w (sgT sg 0) uZ S' (gN G i (nsI (G.1 i) 1 0 g)) → Qp S') (k2 : ∀ i, i < n → x = nI i → (y < 0 ∨ 8 ≤ y) → ∀ S', zMV Z S0 ar n w (sgT sg 2) uZ S' G → Qp S') (k3 : (x < 0 ∨ nI n ≤ x) → ∀ S', zMV Z S0 ar n w (sgT sg 1) uZ S' G → Qp S') : w_X7_part Z (ar 0) x y S Qp := by
  have hn := mV_n H
  have h9 := W_ne9 h hn.2.2.2.1
  have h1 := ms_thr H h9 1
  have h2 := ms_thr H h9 2
  have h0 := ms_thr H h9 0
  unfold w_X7_part
  refine ⟨mV_0 H, m_noNode H (fun i hi hx => ⟨fun _ => ?_, fun z => absurd rfl z⟩) (fun hx => ⟨fun z => absurd z (by decide), fun _ S27 e27 => ⟨fun _ => k3 hx S27 (by rw [e27]; exact h1), fun z => absurd z (by rw [e27, zI_sI, if_pos ⟨rfl, rfl⟩]; decide)⟩⟩)⟩
  obtain ⟨v4, c4⟩ := mv_in8 H (k := 4) (by omega) (by omega) rfl hi
  have hx' : x.toNatClampNeg = i := by rw [hx]; exact c4
  have hv4 : vp_in x (zN Z (ar 4)) := by rw [hx]; exact v4
  rcases pk_ix y (n := 8) (by omega) with hy | hy | ⟨g, hg, hy⟩
  · refine ⟨fun _ S4 e4 => ⟨fun _ => k2 i hi hx (Or.inl hy) S4 (by rw [e4]; exact h2), fun z => absurd z (by rw [e4, zI_sI, if_pos ⟨rfl, rfl⟩]; decide)⟩, fun q => absurd hy q⟩
  · refine ⟨fun q => ?_, fun q => ⟨fun z => ?_, fun _ S18 e18 => ⟨fun _ => k2 i hi hx (Or.inr hy) S18 (by rw [e18]; exact h2), fun z => absurd z (by rw [e18, zI_sI, if_pos ⟨rfl, rfl⟩]; decide)⟩⟩⟩
    · exact absurd (Int32.lt_of_le_of_lt hy q) (by decide)
    · exact absurd (Int32.le_trans hy z) (by decide)
  · refine ⟨fun q => absurd q (by rw [hy]; exact nI_pos (by omega)), fun _ => ⟨fun _ S11 e11 => ⟨fun z => absurd (by rw [e11, zI_sI, if_pos ⟨rfl, rfl⟩]) z, fun _ => ⟨ar 4, mq_4 H, mkk_4 H, hv4, fun S16 e16 => k1 i g hi hx hg hy S16 ?_⟩⟩, fun z => ?_⟩⟩
    · have H16 := ms_F (mn_0 h0 (i := i)) 1 (by omega) (by omega) (v := g) (by omega)
      rw [e16, hx', hy, e11]
      exact H16
    · refine absurd ?_ z
      rw [hy]
      exact (nI_leI (b := 7) (by omega) (by omega)).mpr (by omega)
theorem m_restartAll (H : zMV Z S0 ar n w sg uZ S G) (h : gW n G t l) {x : Int32} {Qp : zS → Prop} (k1 : ∀ i, i < n → x = nI i → (G.1 i).1 0 0 = 0 → ∀ S', zMV Z S0 ar n w (sgT sg 0) uZ S' (gN G i (nsI (G.1 i) 0 0 1)) → Qp S') (k2 : ∀ i, i < n → x = nI i → (G.1 i).1 0 0 ≠ 0 → ∀ S', zMV Z S0 ar n w (sgT sg 2) uZ S' G → Qp S') (k3 : (x < 0 ∨ nI n ≤ x) → ∀ S', zMV Z S0 ar n w (sgT sg 1) uZ S' G → Qp S') : w_X7_restart Z (ar 0) x S Qp := by
  have hn := mV_n H
  have h9 := W_ne9 h hn.2.2.2.1
  have h1 := ms_thr H h9 1
  have h2 := ms_thr H h9 2
  have h0 := ms_thr H h9 0
  unfold w_X7_restart
  refine ⟨mV_0 H, m_noNode H (fun i hi hx => ⟨fun _ => ?_, fun z => absurd rfl z⟩) (fun hx => ⟨fun z => absurd z (by decide), fun _ S27 e27 => ⟨fun _ => k3 hx S27 (by rw [e27]; exact h1), fun z => absurd z (by rw [e27, zI_sI, if_pos ⟨rfl, rfl⟩]; decide)⟩⟩)⟩
  obtain ⟨v3, c3⟩ := mv_in8 H (k := 3) (by omega) (by omega) rfl hi
  have hx' : x.toNatClampNeg = i := by rw [hx]; exact c3
  have hv3 : vp_in x (zN Z (ar 3)) := by rw [hx]; exact v3
  have e0 : zI S (ar 3) i = nI ((G.1 i).1 0 0) := mv_F (mn_0 H (i := i)) hi 0 (by omega) (by omega) (by omega) (by omega)
  have z0 : (nI ((G.1 i).1 0 0) = 0) ↔ (G.1 i).1 0 0 = 0 := nI_eq (by have := (h.1 i hi).1.1; omega) (by omega : 0 < 2 ^ 31)
  refine ⟨ar 3, mq_3 H, mkk_3 H, hv3, ?_⟩
  rw [hx', e0, z0]
  refine ⟨fun q S8 e8 => ⟨fun z => absurd (by rw [e8, zI_sI, if_pos ⟨rfl, rfl⟩]) z, fun _ S9 e9 => k1 i hi hx q S9 ?_⟩, fun q S11 e11 => ⟨fun _ => k2 i hi hx q S11 (by rw [e11]; exact h2), fun z => absurd z (by rw [e11, zI_sI, if_pos ⟨rfl, rfl⟩]; decide)⟩⟩
  have H9 := ms_F (mn_0 h0 (i := i)) 0 (by omega) (by omega) (v := 1) (by omega)
  rw [e9, e8]
  exact H9
theorem m_tableAll (H : zMV Z S0 ar n w sg uZ S G) (h : gW n G t l) {x y : Int32} {Qp : Int64 → zS → Prop} (k1 : ∀ i k, i < n → x = nI i → k < 16 → y = nI k → ∀ S', zMV Z S0 ar n w (sgT sg 0) uZ S' G → Qp ((G.1 i).2 1 k) S') (k3 : (x < 0 ∨ nI n ≤ x) → ∀ S', zMV Z S0 ar n w (sgT sg 1) uZ S' G → Qp 0 S') (k4 : ∀ i, i < n → x = nI i → (y < 0 ∨ 16 ≤ y) → ∀ S', zMV Z S0 ar n w (sgT sg 1) uZ S' G → Qp 0 S') : w_X7_table Z (ar 0) x y S Qp := by
  have hn := mV_n H
  have h9 := W_ne9 h hn.2.2.2.1
  have h0 := ms_thr H h9 0
  have h1 : (∀ S', zMV Z S0 ar n w (sgT sg 1) uZ S' G → Qp 0 S') → wJ_X7_table_19 Z Qp (ar 0) x y (ar 0) S := fun hk => by
    unfold wJ_X7_table_19 wJ_X7_table_24
    refine ⟨mV_0 H, fun S5 e5 => ⟨mV_0 H, fun q => ?_, fun _ => hk S5 ?_⟩⟩
    · rw [e5, zI_sI, if_pos ⟨rfl, rfl⟩] at q
      exact absurd q (by decide)
    · rw [e5]; exact ms_thr H h9 1
  unfold w_X7_table
  refine ⟨mV_0 H, m_noNode H (fun i hi hx => ⟨fun z => absurd rfl z, fun _ => ?_⟩) (fun hx => ⟨fun _ => h1 (k3 hx), fun z => absurd z (by decide)⟩)⟩
  rcases pk_ix y (n := 16) (by omega) with hy | hy | ⟨g, hg, hy⟩
  · exact ⟨fun _ => h1 (k4 i hi hx (Or.inl hy)), fun q => absurd hy q⟩
  · exact ⟨fun _ => h1 (k4 i hi hx (Or.inr hy)), fun _ => ⟨fun z => absurd hy (Int32.not_le.mpr z), fun _ => h1 (k4 i hi hx (Or.inr hy))⟩⟩
  · refine ⟨fun q => absurd q (by rw [hy]; exact nI_pos (by omega)), fun _ => ⟨fun _ => ?_, fun z => absurd (show y < 16 by rw [hy]; exact nI_lt (a := g) (b := 16) hg (by decide)) z⟩⟩
    unfold wJ_X7_table_24
    refine ⟨mV_0 H, fun S5 e5 => ⟨mV_0 H, fun _ => ⟨ar 7, mq_7 H, mkk_7 H, ?_⟩, fun q => ?_⟩⟩
    · have ec : (16 : Int32) * nI i + nI g = nI (16 * i + g) := by
        rw [← nI_add]
        exact congrArg (· + nI g) (pk_mul 16 i)
      obtain ⟨v7, c7⟩ := mv_ins H (k := 7) (j := 16 * i + g) (m := 128) (by omega) (by omega) rfl (by omega) (by omega)
      have H5 : zMV Z S0 ar n w (sgT sg 0) uZ S5 G := by rw [e5]; exact h0
      have e7 : zJ S5 (ar 7) (16 * i + g) = (G.1 i).2 1 g := (mV_N H5 hi).1.2.1.2.1 g hg
      rw [hx, hy, ec, c7, e7]
      exact ⟨v7, k1 i g hi hx hg hy S5 H5⟩
    · rw [e5, zI_sI, if_pos ⟨rfl, rfl⟩] at q
      exact absurd (by decide) q
theorem m_markAll (H : zMV Z S0 ar n w sg uZ S G) (h : gW n G t l) {x : Int32} {Qp : Int64 → zS → Prop} (k1 : ∀ i, i < n → x = nI i → ∀ S', zMV Z S0 ar n w (sgT sg 0) uZ S' G → Qp ((G.1 i).2 0 0) S') (k3 : (x < 0 ∨ nI n ≤ x) → ∀ S', zMV Z S0 ar n w (sgT sg 1) uZ S' G → Qp 0 S') : w_X7_mark Z (ar 0) x S Qp := by
  have hn := mV_n H
  have h9 := W_ne9 h hn.2.2.2.1
  unfold w_X7_mark
  refine ⟨mV_0 H, m_noNode H (fun i hi hx => ⟨fun _ S4 e4 => ⟨fun _ => ⟨ar 9, mq_9 H, mkk_9 H, ?_⟩, fun q => ?_⟩, fun z => absurd rfl z⟩) (fun hx => ⟨fun z => absurd z (by decide), fun _ S10 e10 => ⟨fun q => ?_, fun _ => k3 hx S10 (by rw [e10]; exact ms_thr H h9 1)⟩⟩)⟩
  · obtain ⟨v9, c9⟩ := mv_in8 H (k := 9) (by omega) (by omega) rfl hi
    have H4 : zMV Z S0 ar n w (sgT sg 0) uZ S4 G := by rw [e4]; exact ms_thr H h9 0
    have e9 : zJ S4 (ar 9) i = (G.1 i).2 0 0 := (mV_N H4 hi).1.2.1.1
    rw [hx, c9, e9]
    exact ⟨v9, k1 i hi hx S4 H4⟩
  · rw [e4, zI_sI, if_pos ⟨rfl, rfl⟩] at q
    exact absurd (by decide) q
  · rw [e10, zI_sI, if_pos ⟨rfl, rfl⟩] at q
    exact absurd q (by decide)
theorem m_primAll (H : zMV Z S0 ar n w sg uZ S G) (h : gW n G t l) (ht : t < 2 ^ 20) {x : Int32} {Qp : Int32 → zS → Prop} (k1 : ∀ i, i < n → x = nI i → ∀ S', zMV Z S0 ar n w (sgT sg 0) uZ S' G → Qp (if prim (G.1 i) (G.2 ((G.1 i).1 2 0)) then 1 else 0) S') (k3 : (x < 0 ∨ nI n ≤ x) → ∀ S', zMV Z S0 ar n w (sgT sg 1) uZ S' G → Qp 0 S') : w_X7_primary Z (ar 0) x S Qp := by
  have hn := mV_n H
  have h9 := W_ne9 h hn.2.2.2.1
  unfold w_X7_primary
  refine ⟨mV_0 H, m_noNode H (fun i hi hx => ⟨fun _ => ?_, fun z => absurd rfl z⟩) (fun hx => ⟨fun z => absurd z (by decide), fun _ => ?_⟩)⟩
  · unfold wJ_X7_primary_14
    refine ⟨mV_0 H, fun S5 e5 => ⟨mV_0 H, fun q => ?_, fun _ => ⟨ar 5, mq_5 H, mkk_5 H, ?_⟩⟩⟩
    · rw [e5, zI_sI, if_pos ⟨rfl, rfl⟩] at q
      exact absurd rfl q
    · obtain ⟨v5, c5⟩ := mv_in8 H (k := 5) (by omega) (by omega) rfl hi
      obtain ⟨v10, -⟩ := mv_in8 H (k := 10) (by omega) (by omega) rfl hi
      have H5 : zMV Z S0 ar n w (sgT sg 0) uZ S5 G := by rw [e5]; exact ms_thr H h9 0
      have k1 := k1 i hi hx S5 H5
      have e5' : zI S5 (ar 5) i = if (G.1 i).1 2 0 = 8 then -1 else nI (sgT sg 0 ((G.1 i).1 2 0)) := (mV_N H5 hi).2.1
      rw [hx, c5, e5']
      refine ⟨v5, ?_⟩
      by_cases h8 : (G.1 i).1 2 0 = 8
      · rw [if_pos h8]
        have hp : prim (G.1 i) (G.2 ((G.1 i).1 2 0)) = false := by
          unfold prim
          rw [h8, h.2.2.2.1.2.2.2.1.1]
          rfl
        rw [hp] at k1
        exact ⟨fun _ => k1, fun z => absurd rfl z⟩
      · rw [if_neg h8]
        obtain ⟨g1, g24, -⟩ := mv_R H5 hi rfl h8
        have g24 : zI S5 (ar 24) (sgT sg 0 ((G.1 i).1 2 0)) = nI ((G.2 ((G.1 i).1 2 0)).1 0 0) := g24
        obtain ⟨v24, c24⟩ := mv_ins H (k := 24) (j := sgT sg 0 ((G.1 i).1 2 0)) (m := 16) (by omega) (by omega) rfl (by omega) g1
        have e4 : zI S5 (ar 10) i = nI ((G.1 i).1 4 0) := mv_F (mn_0 H5 (i := i)) hi 4 (by omega) (by omega) (by omega) (by omega)
        have hb := h.2.2.1.1 i hi
        have hb2 := h.2.2.1.2 ((G.1 i).1 2 0)
        have zv : (nI ((G.1 i).1 4 0) = nI ((G.2 ((G.1 i).1 2 0)).1 0 0)) ↔ (G.1 i).1 4 0 = (G.2 ((G.1 i).1 2 0)).1 0 0 := nI_eq (by omega) (by omega)
        have hnum := h.2.2.2.2.1.2.1 i hi h8
        refine ⟨fun z => absurd z (fun e => nI_pos (n := sgT sg 0 ((G.1 i).1 2 0)) (by omega) (by rw [e]; decide)), fun _ => ⟨ar 10, mq_10 H, mkk_10 H, v10, ar 24, mq_24 H, mkk_24 H, v24, ?_⟩⟩
        rw [e4, c24, g24, zv]
        refine ⟨fun q => ?_, fun q => ?_⟩
        · have hp : prim (G.1 i) (G.2 ((G.1 i).1 2 0)) = false := by
            refine Bool.eq_false_iff.mpr (fun z => q (prim_num z))
          rw [hp] at k1; exact k1
        · have hp : prim (G.1 i) (G.2 ((G.1 i).1 2 0)) = true := by
            unfold prim
            rw [Bool.and_eq_true, decide_eq_true_iff, decide_eq_true_iff]
            exact ⟨by omega, q.symm⟩
          rw [hp] at k1; exact k1
  · unfold wJ_X7_primary_14
    refine ⟨mV_0 H, fun S5 e5 => ⟨mV_0 H, fun _ => k3 hx S5 (by rw [e5]; exact ms_thr H h9 1), fun q => ?_⟩⟩
    rw [e5, zI_sI, if_pos ⟨rfl, rfl⟩] at q
    exact absurd q (by decide)
theorem m_aboutAll (H : zMV Z S0 ar n w sg uZ S G) (h : gW n G t l) {x y : Int32} {Qp : Int32 → zS → Prop} (k1 : ∀ i k, i < n → x = nI i → k < 14 → y = nI k → ∀ S', zMV Z S0 ar n w (sgT sg 0) uZ S' G → Qp (nI (gAbout G i k)) S') (k2 : ∀ i, i < n → x = nI i → (y < 0 ∨ 14 ≤ y) → ∀ S', zMV Z S0 ar n w (sgT sg 2) uZ S' G → Qp 0 S') (k3 : (x < 0 ∨ nI n ≤ x) → ∀ S', zMV Z S0 ar n w (sgT sg 1) uZ S' G → Qp 0 S') : w_X7_about Z (ar 0) x y S Qp := by
  have hn := mV_n H
  have h9 := W_ne9 h hn.2.2.2.1
  have hbad : ∀ v, v < 10 → v ≠ 0 → (∀ S', zMV Z S0 ar n w (sgT sg v) uZ S' G → Qp 0 S') → wJ_X7_about_28 Z Qp (ar 0) x y (nI v) (ar 0) S := fun v hv hv0 hk => by
    unfold wJ_X7_about_28
    refine ⟨mV_0 H, fun S7 e7 => ⟨mV_0 H, fun q => ?_, fun _ => hk S7 ?_⟩⟩
    · rw [e7, zI_sI, if_pos ⟨rfl, rfl⟩] at q
      exact absurd q (thr_le hv hv0)
    · rw [e7]
      exact ms_thr H h9 v
  unfold w_X7_about
  refine ⟨mV_0 H, m_noNode H (fun i hi hx => ⟨fun _ => ?_, fun z => absurd rfl z⟩) (fun hx => ⟨fun z => absurd z (by decide), fun _ => hbad 1 (by omega) (by omega) (k3 hx)⟩)⟩
  unfold wJ_X7_about_23
  rcases pk_ix y (n := 14) (by omega) with hy | hy | ⟨g, hg, hy⟩
  · exact ⟨fun _ => hbad 2 (by omega) (by omega) (k2 i hi hx (Or.inl hy)), fun q => absurd hy q⟩
  · refine ⟨fun _ => hbad 2 (by omega) (by omega) (k2 i hi hx (Or.inr hy)), fun _ => ⟨fun z => ?_, fun _ => hbad 2 (by omega) (by omega) (k2 i hi hx (Or.inr hy))⟩⟩
    exact absurd (Int32.le_trans hy z) (by decide)
  · refine ⟨fun q => absurd q (by rw [hy]; exact nI_pos (by omega)), fun _ => ⟨fun _ => ?_, fun z => absurd (show y ≤ 13 by rw [hy]; exact (nI_leI (a := g) (b := 13) (by omega) (by omega)).mpr (by omega)) z⟩⟩
    unfold wJ_X7_about_28
    refine ⟨mV_0 H, fun S5 e5 => ⟨mV_0 H, fun _ => ⟨ar 5, mq_5 H, mkk_5 H, ?_⟩, fun q => ?_⟩⟩
    · have H5 : zMV Z S0 ar n w (sgT sg 0) uZ S5 G := by rw [e5]; exact ms_thr H h9 0
      have k1 := k1 i g hi hx hg hy S5 H5
      generalize sgT sg 0 = sg' at H5
      obtain ⟨v5, c5⟩ := mv_in8 H (k := 5) (by omega) (by omega) rfl hi
      have hx' : x.toNatClampNeg = i := by rw [hx]; exact c5
      have e5' : zI S5 (ar 5) i = if (G.1 i).1 2 0 = 8 then -1 else nI (sg' ((G.1 i).1 2 0)) := (mV_N H5 hi).2.1
      have hF := fun f (hf : f < 12) (h2 : f ≠ 2) (h67 : f = 6 ∨ f = 7 → (G.1 i).1 2 0 ≠ 8) => mv_F (mn_0 H5 (i := i)) hi f hf h2 (fun _ => rfl) h67
      have vin := fun k (h3 : 3 ≤ k) (hk : k < 36) (hm : mln k = 8) => (mv_in8 H (k := k) h3 hk hm hi).1
      refine ⟨by rw [hx]; exact v5, fun y11 e11 => ?_⟩
      rw [hx', e5'] at e11
      -- all that is told, once the ring is known
      have hall : ∀ (t0 : Int32), (t0 = 0 ↔ (G.1 i).1 2 0 = 8) → wJ_X7_about_57 Z Qp (ar 0) x y y11 t0 S5 := fun t0 ht0 => by
        have i6 := h.2.2.2.1.2.2.2.2.2 i hi
        have i5 := h.2.2.2.1.2.2.2.1
        have hful8 : (G.1 i).1 2 0 = 8 → fulf (G.1 i) 100 = 0 := fun e => by
          have : (G.1 i).1 16 1 = 0 := Classical.byContradiction (fun z => (h.2.2.2.1.1 i hi 1 z).1 e)
          show (if (G.1 i).1 16 (100 - 99) = 0 then 99 - 99 else fulf (G.1 i) 99) = 0
          rw [if_pos this]
        have hs : (G.1 i).1 2 0 ≠ 8 → y11 = nI (sg' ((G.1 i).1 2 0)) ∧ sg' ((G.1 i).1 2 0) < 16 ∧ zI S5 (ar 24) (sg' ((G.1 i).1 2 0)) = nI ((G.2 ((G.1 i).1 2 0)).1 0 0) ∧ zI S5 (ar 25) (sg' ((G.1 i).1 2 0)) = nI ((G.2 ((G.1 i).1 2 0)).1 1 0) := fun h8 => by
          obtain ⟨g1, g24, g25, -⟩ := mv_R H5 hi rfl h8
          exact ⟨by rw [e11, if_neg h8], g1, g24, g25⟩
        have ly : ∀ b : Nat, b < 100 → ((nI b ≤ y) ↔ b ≤ g) := fun b hb => by rw [hy]; exact nI_leI (by omega) (by omega)
        have ey : ∀ b : Nat, b < 100 → ((y = nI b) ↔ g = b) := fun b hb => by rw [hy]; exact nI_eq (by omega) (by omega)
        have q4 : ((4 : Int32) ≤ y) ↔ 4 ≤ g := ly 4 (by omega)
        have q8 : ((8 : Int32) ≤ y) ↔ 8 ≤ g := ly 8 (by omega)
        have q12 : ((12 : Int32) ≤ y) ↔ 12 ≤ g := ly 12 (by omega)
        have z0 : (y = 0) ↔ g = 0 := ey 0 (by omega)
        have z1 : (y = 1) ↔ g = 1 := ey 1 (by omega)
        have z2 : (y = 2) ↔ g = 2 := ey 2 (by omega)
        have z4 : (y = 4) ↔ g = 4 := ey 4 (by omega)
        have z5 : (y = 5) ↔ g = 5 := ey 5 (by omega)
        have z6 : (y = 6) ↔ g = 6 := ey 6 (by omega)
        have z8 : (y = 8) ↔ g = 8 := ey 8 (by omega)
        have z9 : (y = 9) ↔ g = 9 := ey 9 (by omega)
        have z10 : (y = 10) ↔ g = 10 := ey 10 (by omega)
        have z12 : (y = 12) ↔ g = 12 := ey 12 (by omega)
        unfold wJ_X7_about_57
        rw [q4, q8, q12, z0, z1, z2, z4, z5, z6, z8, z9, z10, z12, ht0]
        have gv : ∀ c v, g = c → gAbout G i c = v → Qp (nI v) S5 := fun c v e1 e2 => by rw [← e2, ← e1]; exact k1
        refine ⟨fun a4 => ⟨fun a8 => ⟨fun a12 => ⟨fun b12 => ⟨mV_0 H, ar 18, mq_18 H, mkk_18 H, by rw [hx]; exact vin 18 (by omega) (by omega) rfl, ?_⟩, fun b12 => ⟨mV_0 H, ?_⟩⟩, fun a12 => ⟨fun b8 => ⟨fun b9 => ⟨fun b10 => ⟨mV_0 H, ar 6, mq_6 H, mkk_6 H, by rw [hx]; exact vin 6 (by omega) (by omega) rfl, ?_⟩, fun b10 => ⟨mV_0 H, ar 11, mq_11 H, mkk_11 H, by rw [hx]; exact vin 11 (by omega) (by omega) rfl, ?_⟩⟩, fun b9 => ⟨mV_0 H, ar 10, mq_10 H, mkk_10 H, by rw [hx]; exact vin 10 (by omega) (by omega) rfl, ?_⟩⟩, fun b8 => ⟨mV_0 H, ar 8, mq_8 H, mkk_8 H, by rw [hx]; exact vin 8 (by omega) (by omega) rfl, ?_⟩⟩⟩, fun a8 => ⟨fun b4 => ⟨fun c8 => ⟨fun b5 => ⟨fun b6 => ⟨mV_0 H, ar 17, mq_17 H, mkk_17 H, by rw [hx]; exact vin 17 (by omega) (by omega) rfl, ?_⟩, fun b6 => ⟨mV_0 H, ar 16, mq_16 H, mkk_16 H, by rw [hx]; exact vin 16 (by omega) (by omega) rfl, ?_⟩⟩, fun b5 => ⟨mV_0 H, ?_⟩⟩, fun c8 => ?_⟩, fun b4 => ⟨mV_0 H, ar 12, mq_12 H, mkk_12 H, by rw [hx]; exact vin 12 (by omega) (by omega) rfl, ?_⟩⟩⟩, fun a4 => ⟨fun b0 => ⟨fun b1 => ⟨fun c8 => ⟨fun b2 => ⟨mV_0 H, ar 25, mq_25 H, mkk_25 H, ?_⟩, fun b2 => ⟨mV_0 H, ar 24, mq_24 H, mkk_24 H, ?_⟩⟩, fun c8 => ?_⟩, fun b1 => ⟨mV_0 H, ar 4, mq_4 H, mkk_4 H, by rw [hx]; exact vin 4 (by omega) (by omega) rfl, ?_⟩⟩, fun b0 => ⟨mV_0 H, ar 3, mq_3 H, mkk_3 H, by rw [hx]; exact vin 3 (by omega) (by omega) rfl, ?_⟩⟩⟩
        · rw [hx', show zI S5 (ar 18) i = _ from hF 10 (by omega) (by omega) (by omega)]
          exact gv 13 _ (by omega) rfl
        · rw [hx]
          refine m_holds H5 hi (h.1 i hi).1.1 (h.2.2.2.1.2.2.2.2.1 i hi) i5.2.2 ⟨fun q => ?_, fun q => ?_⟩
          · refine gv 12 0 b12 ?_
            show (if (G.2 ((G.1 i).1 2 0)).1 2 0 = i + 1 then 1 else 0) = 0
            rw [if_neg]
            intro z
            rw [if_pos z] at q
            exact absurd q (by decide)
          · refine gv 12 1 b12 ?_
            show (if (G.2 ((G.1 i).1 2 0)).1 2 0 = i + 1 then 1 else 0) = 1
            rw [if_pos]
            exact Classical.byContradiction (fun z => by rw [if_neg z] at q; exact q rfl)
        · rw [hx', show zI S5 (ar 6) i = _ from hF 3 (by omega) (by omega) (by omega)]
          exact gv 11 _ (by omega) rfl
        · rw [hx', show zI S5 (ar 11) i = _ from hF 5 (by omega) (by omega) (by omega)]
          exact gv 10 _ (by omega) rfl
        · rw [hx', show zI S5 (ar 10) i = _ from hF 4 (by omega) (by omega) (by omega)]
          exact gv 9 _ (by omega) rfl
        · rw [hx', show zI S5 (ar 8) i = _ from hF 8 (by omega) (by omega) (by omega)]
          exact gv 8 _ (by omega) rfl
        · rw [hx', show zI S5 (ar 17) i = _ from hF 7 (by omega) (by omega) (fun _ => c8)]
          exact gv 7 _ (by omega) rfl
        · rw [hx', show zI S5 (ar 16) i = _ from hF 6 (by omega) (by omega) (fun _ => c8)]
          exact gv 6 _ (by omega) rfl
        · rw [hx]
          exact m_full (N := G.1 i) (R := G.2 ((G.1 i).1 2 0)) (mn_0 H5) hi c8 rfl (h.2.1 _).1.2.2 (W_has0 h hi rfl) (gv 5 _ b5 rfl)
        · have : g = 5 ∨ g = 6 ∨ g = 7 := by omega
          rcases this with e | e | e
          · exact gv 5 0 e (hful8 c8)
          · exact gv 6 0 e (i6 c8).1
          · exact gv 7 0 e (i6 c8).2
        · rw [hx', show zI S5 (ar 12) i = _ from hF 11 (by omega) (by omega) (by omega)]
          exact gv 4 _ (by omega) rfl
        · obtain ⟨a1, a2, a3, a5⟩ := hs c8
          obtain ⟨v25, c25⟩ := mv_ins H (k := 25) (j := sg' ((G.1 i).1 2 0)) (m := 16) (by omega) (by omega) rfl (by omega) a2
          rw [a1, c25, a5]
          exact ⟨v25, gv 3 _ (by omega) rfl⟩
        · obtain ⟨a1, a2, a3, a5⟩ := hs c8
          obtain ⟨v24, c24⟩ := mv_ins H (k := 24) (j := sg' ((G.1 i).1 2 0)) (m := 16) (by omega) (by omega) rfl (by omega) a2
          rw [a1, c24, a3]
          exact ⟨v24, gv 2 _ (by omega) rfl⟩
        · have : g = 2 ∨ g = 3 := by omega
          rcases this with e | e
          · refine gv 2 0 e ?_
            show (G.2 ((G.1 i).1 2 0)).1 0 0 = 0
            rw [c8]; exact i5.1
          · refine gv 3 0 e ?_
            show (G.2 ((G.1 i).1 2 0)).1 1 0 = 0
            rw [c8]; exact i5.2.1
        · rw [hx', show zI S5 (ar 4) i = _ from hF 1 (by omega) (by omega) (by omega)]
          exact gv 1 _ (by omega) rfl
        · have hz : (nI ((G.1 i).1 0 0) = 0) ↔ (G.1 i).1 0 0 = 0 := nI_eq (by have := (h.1 i hi).1.1; omega) (by omega : 0 < 2 ^ 31)
          rw [hx', show zI S5 (ar 3) i = _ from hF 0 (by omega) (by omega) (by omega), hz]
          refine ⟨fun q => gv 0 0 b0 ?_, fun q => gv 0 1 b0 ?_⟩
          · show (if (G.1 i).1 0 0 = 0 then 0 else 1) = 0
            rw [if_pos q]
          · show (if (G.1 i).1 0 0 = 0 then 0 else 1) = 1
            rw [if_neg q]
      have hy11 : (y11 = -1) ↔ (G.1 i).1 2 0 = 8 := by
        rw [e11]
        by_cases e : (G.1 i).1 2 0 = 8
        · rw [if_pos e]; exact ⟨fun _ => e, fun _ => rfl⟩
        · rw [if_neg e]
          have g1 := (mv_R H5 hi rfl e).1
          exact ⟨fun z => absurd (nI_pos (n := sg' ((G.1 i).1 2 0)) (by omega)) (fun y => y (by rw [z]; decide)), fun z => absurd z e⟩
      rw [hy11]
      exact ⟨fun q => hall 0 ⟨fun _ => q, fun _ => rfl⟩, fun q => hall 1 ⟨fun z => absurd z (by decide), fun z => absurd z q⟩⟩
    · rw [e5, zI_sI, if_pos ⟨rfl, rfl⟩] at q
      exact absurd (by decide) q
end
