/-! what the Statement gives of the start: the law's environment -/
theorem zArr {s : State} {cA : ClassId} {k : Class} {comp : ClassId} {ty : FieldType} (h1 : s.vm.classes[cA]? = some k) (h2 : k.kind = .array comp ty) : ArrOfT s cA ty := fun n z => ⟨fun k h => (by cases h), k, h1, comp, h2⟩
set_option maxRecDepth 100000 in
set_option maxHeartbeats 4000000 in
theorem whole_env {s : State} {b : Nat} (hts : ∀ w ∈ lw_tbl, w.before #[Value.ref b] s = true) (hgv : (Jvm.Cond.and given_1 narrow_1).before #[Value.ref b] s = true) : ∃ (D : va_G) (cy : Nat → ClassId), zV D cy (fun q => s.heap.size ≤ q) s s.heap := by
  obtain ⟨c0, i0, K0⟩ := u_known (C := RX0) (T := TX0) (N := 2) (n := 2) hts inX0 (hts (.instantiable RX0 2) (by decide +kernel))
  obtain ⟨c1, i1, K1⟩ := u_known (C := RX1) (T := TX1) (N := 4) (n := 4) hts inX1 (hts (.instantiable RX1 4) (by decide +kernel))
  obtain ⟨c2, i2, K2⟩ := u_known (C := RX2) (T := TX2) (N := 13) (n := 13) hts inX2 (hts (.instantiable RX2 13) (by decide +kernel))
  obtain ⟨c3, i3, K3⟩ := u_known (C := RX3) (T := TX3) (N := 2) (n := 2) hts inX3 (hts (.instantiable RX3 2) (by decide +kernel))
  obtain ⟨c4, i4, K4⟩ := u_known (C := RX4) (T := TX4) (N := 5) (n := 5) hts inX4 (hts (.instantiable RX4 5) (by decide +kernel))
  obtain ⟨c5, i5, K5⟩ := u_known (C := RX5) (T := TX5) (N := 6) (n := 6) hts inX5 (hts (.instantiable RX5 6) (by decide +kernel))
  obtain ⟨c6, i6, K6⟩ := u_known (C := RX6) (T := TX6) (N := 4) (n := 4) hts inX6 (hts (.instantiable RX6 4) (by decide +kernel))
  obtain ⟨c7, i7, K7⟩ := u_known (C := RX7) (T := TX7) (N := 36) (n := 36) hts inX7 (hts (.instantiable RX7 36) (by decide +kernel))
  obtain ⟨a0, k0, p0, f0, g0, h0⟩ := Cond.arrayClass_spec (hts (.arrayClass .int) (by decide +kernel))
  obtain ⟨a1, k1, p1, f1, g1, h1⟩ := Cond.arrayClass_spec (hts (.arrayClass .long) (by decide +kernel))
  obtain ⟨a2, k2, p2, f2, g2, h2⟩ := Cond.arrayClass_spec (hts (.arrayClass .boolean) (by decide +kernel))
  have w3 := hts (.arrayOver (.object RX1)) (by decide +kernel)
  obtain ⟨p3, a3, k3, e3, -, g3, h3, f3⟩ := Cond.arrayOver_spec w3
  have w4 := hts (.arrayOver (.object RX2)) (by decide +kernel)
  obtain ⟨p4, a4, k4, e4, -, g4, h4, f4⟩ := Cond.arrayOver_spec w4
  have w5 := hts (.arrayOver (.object RX5)) (by decide +kernel)
  obtain ⟨p5, a5, k5, e5, -, g5, h5, f5⟩ := Cond.arrayOver_spec w5
  have hs := flat_of_before _ hgv
  refine ⟨(fun k => match k with | 0 => c0 | 1 => c1 | 2 => c2 | 3 => c3 | 4 => c4 | 5 => c5 | 6 => c6 | _ => c7, fun k => match k with | 0 => i0 | 1 => i1 | 2 => i2 | 3 => i3 | 4 => i4 | 5 => i5 | 6 => i6 | _ => i7), fun k => match k with | 0 => a0 | 1 => a1 | 2 => a2 | 3 => a3 | 4 => a4 | _ => a5, ⟨?_, ?_⟩, ?_, ?_, ?_, ?_, va_AO.of w3, va_AO.of w4, va_AO.of w5, ?_, ?_⟩
  · intro c q hq
    match c, hq with
    | 0, hq => cases hq; exact K0
    | 1, hq => cases hq; exact K1
    | 2, hq => cases hq; exact K2
    | 3, hq => cases hq; exact K3
    | 4, hq => cases hq; exact K4
    | 5, hq => cases hq; exact K5
    | 6, hq => cases hq; exact K6
    | 7, hq => cases hq; exact K7
    | c + 8, hq => simp [vwCl] at hq
  · intro k q hq
    match k, hq with
    | 0, hq => cases hq; exact ⟨zArr g0 h0, f0⟩
    | 1, hq => cases hq; exact ⟨zArr g1 h1, f1⟩
    | 2, hq => cases hq; exact ⟨zArr g2 h2, f2⟩
    | 3, hq => cases hq; exact ⟨zArr g3 h3, k3, p3, g3, h3, e3, f3⟩
    | 4, hq => cases hq; exact ⟨zArr g4 h4, k4, p4, g4, h4, e4, f4⟩
    | 5, hq => cases hq; exact ⟨zArr g5 h5, k5, p5, g5, h5, e5, f5⟩
    | k + 6, hq => simp [zTy] at hq
  · intro w hw
    refine va_Nw.of (zBw_on w hw) (hts w ?_)
    have hsub : ∀ w ∈ zBw, w ∈ lw_tbl := by decide +kernel
    exact hsub w hw
  · exact vx_Zqof (hts _ (by decide +kernel)) (hts _ (by decide +kernel)) (hs _ (by decide +kernel)) (fun a h => Nat.not_le.mpr h)
  · exact vx_Zqof (hts _ (by decide +kernel)) (hts _ (by decide +kernel)) (hs _ (by decide +kernel)) (fun a h => Nat.not_le.mpr h)
  · intro x hx
    have key : ∀ x ∈ zTx, Cond.stringRef RX6 x.1 x.2 ∈ lw_tbl := by decide +kernel
    have key2 : ∀ x ∈ zTx, Cond.exactly (.string RX6 x.1) "java/lang/String" ∈ flatC (Jvm.Cond.and given_1 narrow_1) := by decide +kernel
    obtain ⟨sa, -, -, -, h1, -⟩ := Cond.exactly_spec (hs _ (key2 x hx))
    exact ⟨sa, vk_R.of (hts _ (key x hx)) h1⟩
  · exact va_Nc.of (hs _ (by decide +kernel))
  · exact va_Nc.of (hs _ (by decide +kernel))
theorem whole_st (l : Launch) (hflags : l.flags = flags0) : l.stackTraces = false := by
  unfold Launch.stackTraces
  rw [hflags]
  decide +kernel
