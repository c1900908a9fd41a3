/-! the law's body, from its entry: what is made shows the first state; each round keeps what holds between calls -/
theorem zLI_up {b1 b8 b15 k : Nat} {Z : zZ} {S : zS} (h : zLI b1 b8 b15 k Z S) : zLI b1 b8 b15 (k + 1) Z S := by
  obtain ⟨ad, ar, n, w, sg, G, l, hC, hM, hJ, e, hW, hl⟩ := h
  exact ⟨ad, ar, n, w, sg, G, l, hC, hM, hJ, e, W_mono hW (by omega) (Nat.le_refl _), by omega⟩
theorem L_end {L k : Nat} (hL : L ≤ 290) (hk : k = 0 ∨ 2 + 6 * k ≤ L) (h : ¬ (nI L - 6) < nI (2 + 6 * k)) : 8 + 6 * k ≤ L := by
  have e6 : (6 : Int32) = nI 6 := rfl
  rw [e6] at h
  by_cases c : 6 ≤ L
  · rw [pk_sub c] at h
    have := Nat.le_of_not_lt (fun y => h ((nI_ltI (by omega) (by omega)).mpr y))
    omega
  · have h1 : nI L - nI 6 < 0 := pk_sneg (by omega) (by omega)
    exact absurd (Int32.lt_of_lt_of_le h1 (nI_pos' (by omega))) h
/-- one round -/
theorem law_rd {x0 x1 x2 x3 L k : Nat} {xs : Nat → Int32} {rec : Nat → Int32 → zZ → zS → Prop} {Z : zZ} {S : zS} (hL : L ≤ 290) (hk : k ≤ 48) (hkL : k = 0 ∨ 2 + 6 * k ≤ L) (hI : zLI x1 x2 x3 k Z S) (hrec : ∀ Z' S', 8 + 6 * k ≤ L → zLI x1 x2 x3 (k + 1) Z' S' → rec (k + 1) (nI (2 + 6 * (k + 1))) Z' S') : wb_L_law_43 L xs x0 x1 x2 x3 (fun _ _ => True) rec k (nI (2 + 6 * k)) Z S := by
  have hk49 : k < 49 := by omega
  unfold wb_L_law_43
  refine ⟨hk49, fun _ => trivial, fun hlt => ?_⟩
  have hb := L_end hL hkL hlt
  have R : ∀ Z' S', zLI x1 x2 x3 (k + 1) Z' S' → ∀ y, y = nI (2 + 6 * k) + 6 → rec (k + 1) y Z' S' := fun Z' S' h y e => by
    have e6 : (6 : Int32) = nI 6 := rfl
    have e2 : 2 + 6 * k + 6 = 2 + 6 * (k + 1) := by omega
    rw [e6, nI_add, e2] at e
    rw [e]
    exact hrec Z' S' hb h
  have V : ∀ j, j < 6 → vp_in (nI (2 + 6 * k) + nI j) L := fun j hj => by
    rw [nI_add]
    exact vp_in_nI (by omega) (by omega)
  have v0 : vp_in (nI (2 + 6 * k)) L := vp_in_nI (by omega) (by omega)
  have v1 : vp_in (nI (2 + 6 * k) + 1) L := V 1 (by omega)
  have v2 : vp_in (nI (2 + 6 * k) + 2) L := V 2 (by omega)
  have v3 : vp_in (nI (2 + 6 * k) + 3) L := V 3 (by omega)
  have v4 : vp_in (nI (2 + 6 * k) + 4) L := V 4 (by omega)
  have v5 : vp_in (nI (2 + 6 * k) + 5) L := V 5 (by omega)
  refine ⟨v0, fun _ => ⟨v1, v2, v3, v4, v5, fun q => ?_, fun q => ?_⟩, fun _ => ⟨fun _ => ⟨v1, v2, ?_⟩, fun _ => ⟨fun _ => ⟨v1, ?_⟩, fun _ => ⟨fun _ => ⟨v1, v2, ?_⟩, fun _ => ⟨fun _ => ⟨v1, ?_⟩, fun _ => ⟨fun _ => ⟨v1, ?_⟩, fun _ => ⟨fun _ => ⟨v1, v2, ?_⟩, fun _ => ⟨fun _ => ⟨v1, v2, ?_⟩, fun _ => ⟨fun _ => ⟨v1, ?_⟩, fun _ => ⟨fun _ => ⟨v1, v2, v3, ?_⟩, fun _ => ⟨fun _ => ⟨v1, ?_⟩, fun _ y e => R Z S (zLI_up hI) y e⟩⟩⟩⟩⟩⟩⟩⟩⟩⟩⟩
  · exact r_send hI hk49 R v1 v2 v3 v4 v5 (Or.inl rfl) (fun _ => rfl) (fun z => absurd q z)
  · exact r_send hI hk49 R v1 v2 v3 v4 v5 (Or.inr rfl) (fun z => absurd z q) (fun _ => rfl)
  · exact r_pass hI hk49 R
  · exact r_gather hI hk49 R
  · exact r_part hI hk49 R
  · exact r_crash hI hk49 R
  · exact r_restart hI hk49 R
  · exact r_about hI hk49 R
  · exact r_table hI hk49 R
  · exact r_mark hI hk49 R
  · exact r_entry hI hk49 R
  · exact r_primary hI hk49 R
/-- the law, from its entry -/
theorem law_all (x0 L : Nat) (xs : Nat → Int32) (hL : L ≤ 290) : w_L_law x0 L xs (fun _ _ => True) zZ0 zS0 := by
  have ok0 : zok zZ0 := fun p p' hp _ _ => absurd hp (Nat.not_lt_zero p)
  unfold w_L_law
  intro b1 hb1 Z3 S4 e3 e4
  obtain ⟨a1, a2, a3, a4⟩ := sc_al 0 ok0 hb1 e3 e4
  have hp0 : zPm zZ0 = 0 := rfl
  rw [hp0] at a2 a4
  obtain ⟨n, hn2, hn8, hcl, c1, c2, c3⟩ := clamp_n 2 (zcell L xs 0) 2 rfl (by omega)
  obtain ⟨w, hw1, hw8, hcw, d1, d2, d3⟩ := clamp_n 1 (zcell L xs 1) 1 rfl (by omega)
  refine k_X6 a1 a4 a2 ⟨hn2, hn8⟩ hcl hcw (fun Z7 S6 ok7 p7 C7 b8 hb8 Z10 S11 e10 e11 => ?_)
  obtain ⟨f1, f2, f3, f4⟩ := sc_al (6 + 12 * n) ok7 hb8 e10 e11
  rw [p7] at f2 f4
  have C10 := pCL_X f3 C7 (Nat.le_refl _)
  refine k_X7 f1 f4 f2 ⟨hn2, hn8⟩ c1 c2 c3 hw8 d1 d2 d3 (fun Z14 S13 ar ok14 p14 x14 ha0 haq har HM b15 hb15 Z17 S18 e17 e18 => ?_)
  have C14 := pCL_X x14 C10 (Nat.le_refl _)
  obtain ⟨g1, g2, g3, g4⟩ := sc_al (zPm Z14) ok14 hb15 e17 e18
  have C17 := pCL_X g3 C14 (by omega)
  obtain ⟨ad, hC, h0, hus, hun⟩ := c_start g1 ⟨hn2, hn8⟩ (by omega) C17
  -- where the reference's cells lie
  have hin : ∀ c, mgd c → ar c ∈ zL Z14 := fun c hc => by
    rcases hc with rfl | hc
    · exact HM.1.1.1.1
    · exact (HM.1.1.2.1 c hc.1 hc.2).2.1.1
  have hpos : ∀ c, mgd c → ∃ p, 6 + 12 * n ≤ p ∧ p < zPm Z14 ∧ ar c = zPa Z17 p := fun c hc => by
    rcases hc with rfl | hc
    · exact ⟨6 + 12 * n, by omega, by omega, by rw [ha0, haq, (g3.2 _ (by omega)).1]⟩
    · exact ⟨6 + 12 * n + 1 + (c - 3), by omega, by omega, by rw [har c hc.1 hc.2, (g3.2 _ (by omega)).1]⟩
  have hne : ∀ c, mgd c → ar c ≠ b15 := fun c hc e => hb15 (e ▸ hin c hc)
  have he : zZe Z14 Z17 := by rw [e17]; exact zZe_al hb15 9 1
  obtain ⟨ar', ha', hno', HM'⟩ := zMV_ad HM he (S' := S18) (fun c hc => by rw [e18]; exact zAt_al _ (hne c hc))
  have hsep : ∀ p, 6 + 12 * n ≤ p → p < zPm Z17 → ∀ t i, zPa Z17 p ≠ ad t i := fun p hp hp2 t i e => by
    by_cases u : usdb n t i = true
    · obtain ⟨p', h1, h2⟩ := hus t i u
      rw [h2] at e
      have := g1 p p' hp2 (by omega) e
      omega
    · refine hun t i (Bool.eq_false_iff.mpr u) ?_
      rw [← e]
      exact zPa_in hp2
  have hJ : zJI Z17 ad ar' b15 := by
    refine ⟨fun c hc t i => ?_, hno', sc_k g4 rfl, sc_N g4 (kh := 9) rfl, fun t i => ?_, fun c hc => ?_⟩
    · obtain ⟨p, h1, h2, h3⟩ := hpos c hc
      rw [ha' c hc, h3]
      exact hsep p h1 (by omega) t i
    · rw [← g4.2]
      exact hsep _ (by omega) (by omega) t i
    · rw [ha' c hc]
      exact fun e => hne c hc e.symm
  have hLI : zLI b1 b8 b15 0 Z17 S18 := ⟨ad, ar', n, w, fun _ => 0, G0 n, 0, hC, HM', hJ, ⟨h0, (ha' 0 (Or.inl rfl)).trans ha0⟩, W_0 ⟨hn2, hn8⟩, by omega⟩
  refine zlp4 (fun k x Z S => k ≤ 48 ∧ (k = 0 ∨ 2 + 6 * k ≤ L) ∧ x = nI (2 + 6 * k) ∧ zLI b1 b8 b15 k Z S) (fun k _ _ _ => 49 - k) (fun rec k x Z S hI hrec => ?_) 0 2 Z17 S18 ⟨by omega, Or.inl rfl, rfl, hLI⟩
  obtain ⟨hk, hkL, rfl, hI⟩ := hI
  exact law_rd hL hk hkL hI (fun Z' S' hb h => hrec _ _ _ _ ⟨by omega, Or.inr (by omega), rfl, h⟩ (by omega))
theorem whole_start {p : Program} {e : Env} {s : State} {m : MethodId} {below : List Frame} {meth : Method} {c : Code} (l : Launch) (hflags : l.flags = flags0) {b L : Nat} {xs : Nat → Int32} (hL : L ≤ 290) (C0 : lw_At p s m meth c b L xs) : W p l e room_1 s m #[Value.ref b] below meth c s.heap [] 0 0 (lw_Z below #[Value.ref b] s) (entryFrame m ([Value.ref b] : List Value).toArray 8) := whole_start_open law_all l hflags hL C0
