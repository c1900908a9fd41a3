/-! the reference's new ring -/
theorem rLv_s0 (R : nT) {s q : Nat} (h : s.testBit q = false) : rLv R s (q + 1) = rLv R s q := congrArg (fun g : gT => g.2 0) (gLv_s0 ((fun _ => R, fun _ => R) : gT) h)
theorem gFm_0 (G : gT) (s : Nat) (R0 R' : nT) (p : Bool) : gFm G s R0 R' p 0 = gR G 10 R' := by
  refine Prod.ext (funext fun j => ?_) (funext fun r => ?_)
  · show (if j < 0 ∧ s.testBit j = true then nJoin (nLeave (G.1 j)) R0 10 p else G.1 j) = G.1 j
    rw [if_neg (fun z => by omega)]
  · show (if r = 10 then R' else rLv (G.2 r) s 0) = if r = 10 then R' else G.2 r
    have : rLv (G.2 r) s 0 = G.2 r := by unfold rLv; rw [if_neg (fun z => by omega)]
    rw [this]
theorem gFm_R (G : gT) (s : Nat) (R0 R' R'' : nT) (p : Bool) (m : Nat) : gR (gFm G s R0 R' p m) 10 R'' = gFm G s R0 R'' p m := by
  refine Prod.ext rfl (funext fun r => ?_)
  show (if r = 10 then R'' else if r = 10 then R' else rLv (G.2 r) s m) = if r = 10 then R'' else rLv (G.2 r) s m
  by_cases c : r = 10
  · rw [if_pos c, if_pos c]
  · rw [if_neg c, if_neg c, if_neg c]
theorem gFm_s0 (G : gT) {s : Nat} (R0 R' : nT) (p : Bool) {m : Nat} (h : s.testBit m = false) : gFm G s R0 R' p (m + 1) = gFm G s R0 R' p m := by
  refine Prod.ext (funext fun j => ?_) (funext fun r => ?_)
  · show (if j < m + 1 ∧ s.testBit j = true then nJoin (nLeave (G.1 j)) R0 10 p else G.1 j) = if j < m ∧ s.testBit j = true then nJoin (nLeave (G.1 j)) R0 10 p else G.1 j
    refine z_ifc2 ⟨fun z => ⟨?_, z.2⟩, fun z => ⟨by omega, z.2⟩⟩
    have : j ≠ m := fun e => by rw [e, h] at z; exact absurd z.2 (by decide)
    omega
  · show (if r = 10 then R' else rLv (G.2 r) s (m + 1)) = if r = 10 then R' else rLv (G.2 r) s m
    rw [rLv_s0 _ h]
theorem gFm_s1 (G : gT) {s : Nat} (R0 R' : nT) (p : Bool) {m : Nat} (h : s.testBit m = true) (hh : ∀ r, (G.2 r).1 2 0 = m + 1 → (G.1 m).1 2 0 = r) (h10 : (G.1 m).1 2 0 ≠ 10) : gFm G s R0 R' p (m + 1) = gN (gR (gFm G s R0 R' p m) ((G.1 m).1 2 0) (rLeave ((gFm G s R0 R' p m).2 ((G.1 m).1 2 0)) m)) m (nJoin (nLeave (G.1 m)) R0 10 p) := by
  have hg := gLv_s1 G h hh
  have e0 : (gFm G s R0 R' p m).2 ((G.1 m).1 2 0) = rLv (G.2 ((G.1 m).1 2 0)) s m := if_neg h10
  refine Prod.ext (funext fun j => ?_) (funext fun r => ?_)
  · show (if j < m + 1 ∧ s.testBit j = true then nJoin (nLeave (G.1 j)) R0 10 p else G.1 j) = if j = m then nJoin (nLeave (G.1 m)) R0 10 p else if j < m ∧ s.testBit j = true then nJoin (nLeave (G.1 j)) R0 10 p else G.1 j
    by_cases e : j = m
    · subst e
      rw [if_pos ⟨by omega, h⟩, if_pos rfl]
    · rw [if_neg e]
      exact z_ifc2 ⟨fun z => ⟨by omega, z.2⟩, fun z => ⟨by omega, z.2⟩⟩
  · rw [e0]
    have hr : rLv (G.2 r) s (m + 1) = if r = (G.1 m).1 2 0 then rLeave (rLv (G.2 ((G.1 m).1 2 0)) s m) m else rLv (G.2 r) s m := congrArg (fun g : gT => g.2 r) hg
    show (if r = 10 then R' else rLv (G.2 r) s (m + 1)) = if r = (G.1 m).1 2 0 then rLeave (rLv (G.2 ((G.1 m).1 2 0)) s m) m else if r = 10 then R' else rLv (G.2 r) s m
    by_cases c : r = 10
    · rw [if_pos c, if_neg (fun z => h10 (z.symm.trans c)), if_pos c]
    · rw [if_neg c, if_neg c, hr]
section
variable {Z : zZ} {S0 S : zS} {ar : Nat → Nat} {n w : Nat} {sg sg' : Nat → Nat} {u u' : Nat → Nat → Bool} {G : gT} {i : Nat} {N : nT} {r t l : Nat}
/-- one who joins, once its ring is written -/
theorem m_joins {num s : Nat} {p : Bool} {R0 : nT} (h0 : R0.1 0 0 = num) (h1 : R0.1 1 0 = s) (hnum : num < 2 ^ 30) (hs : s < 2 ^ 30) {x4 : Int32} {a b : Nat} (H : zMV Z S0 ar n w sg u S (gN G i (nEnt N a b))) (hi : i < n) (h10 : N.1 10 0 < 2 ^ 30) {Qp : Int32 → zS → Prop} {K : zS → Prop} {rec : Int32 → zS → Prop} (k : ∀ S' u', (∀ j, u' 5 j = u 5 j) → (∀ j, u' 6 j = true → u 6 j = true ∧ j ≠ i) → zMV Z S0 ar n w sg u' S' (gN G i (nJoin (nLeave N) R0 10 p)) → rec (nI i + 1) S') : ∃ b62, zQ Z (ar 0) 6 = some b62 ∧ zk Z b62 8 ∧ vp_in (nI i) (zN Z b62) ∧ ∀ S66 : zS, S66 = zsI S b62 (nI i).toNatClampNeg (nI num) → ∃ b67, zQ Z (ar 0) 16 = some b67 ∧ zk Z b67 8 ∧ vp_in (nI i) (zN Z b67) ∧ ∀ S71 : zS, S71 = zsI S66 b67 (nI i).toNatClampNeg 0 → ∃ b72, zQ Z (ar 0) 17 = some b72 ∧ zk Z b72 8 ∧ vp_in (nI i) (zN Z b72) ∧ ∀ S76 : zS, S76 = zsI S71 b72 (nI i).toNatClampNeg 0 → ∃ b77, zQ Z (ar 0) 10 = some b77 ∧ (((if p then (1 : Int32) else 0) = 0 → zk Z b77 8 ∧ vp_in (nI i) (zN Z b77) ∧ wJ_X7_form_193 Z Qp K rec (ar 0) (nI s) (if p then 1 else 0) (nI num) x4 (nI i) (zI S76 b77 (nI i).toNatClampNeg) (nI i) b77 S76) ∧ (¬ (if p then (1 : Int32) else 0) = 0 → wJ_X7_form_193 Z Qp K rec (ar 0) (nI s) (if p then 1 else 0) (nI num) x4 (nI i) (nI num) (nI i) b77 S76)) := by
  have hn := mV_n H
  have v8 : ∀ k, 3 ≤ k → k < 36 → mln k = 8 → vp_in (nI i) (zN Z (ar k)) := fun k a b c => (mv_in8 H a b c hi).1
  have c8 : (nI i).toNatClampNeg = i := nI_clamp (by omega)
  refine ⟨ar 6, mq_6 H, mkk_6 H, v8 6 (by omega) (by omega) rfl, fun S66 e66 => ⟨ar 16, mq_16 H, mkk_16 H, v8 16 (by omega) (by omega) rfl, fun S71 e71 => ⟨ar 17, mq_17 H, mkk_17 H, v8 17 (by omega) (by omega) rfl, fun S76 e76 => ⟨ar 10, mq_10 H, ?_⟩⟩⟩⟩
  rw [c8] at e66 e71 e76
  have H1 := ms_F H 3 (by omega) (by omega) (v := num) (by omega)
  have e66' : S66 = zsI S (ar (mA 3)) i (nI num) := e66
  rw [← e66'] at H1
  have H2 := ms_6 H1 (v := 0)
  have e71' : S71 = zsI S66 (ar 16) i (nI 0) := e71
  rw [← e71'] at H2
  have H3 := ms_F H2 7 (by omega) (by omega) (v := 0) (by omega)
  have e76' : S76 = zsI S71 (ar (mA 7)) i (nI 0) := e76
  rw [← e76', nEnt_eq] at H3
  have hu5 : ∀ j, uOff u i 5 j = u 5 j := fun j => by rw [uOff_5]
  have hu6 : ∀ j, uOff u i 6 j = true → u 6 j = true ∧ j ≠ i := fun j z => by
    unfold uOff at z
    by_cases e : j = i
    · rw [if_pos ⟨rfl, e⟩] at z; exact absurd z (by decide)
    · rw [if_neg (fun y => e y.2)] at z; exact ⟨z, e⟩
  generalize hM : nsI (nsI (nLeave N) 2 0 10) 3 0 num = M at H3
  have hM10 : M.1 10 0 = N.1 10 0 := by
    rw [← hM, n1_ne _ _ _ _ (by omega), n1_ne _ _ _ _ (by omega), nLeave_ne _ _ (by omega) (by omega) (by omega) (by omega)]
  -- the last: it is told
  have h226 : ∀ S9 M', zMV Z S0 ar n w sg (uOff u i) S9 (gN G i M') → M'.1 10 0 = N.1 10 0 → nTell M' (lN 3) (lN s) (lN 0) (lN 0) 0 (lN num) = nJoin (nLeave N) R0 10 p → wJ_X7_form_226 Z Qp K rec (ar 0) (nI s) (if p then 1 else 0) (nI num) x4 (nI i) S9 := fun S9 M' H9 hm hj => by
    unfold wJ_X7_form_226
    refine ⟨mV_0 H, ?_⟩
    rw [nI_l (by omega), nI_l (by omega)]
    refine m_tell H9 hi (by omega) (fun S93 H93 y e => ?_)
    subst e
    refine k S93 _ hu5 hu6 ?_
    rw [← hj]
    exact H93
  cases p
  · refine ⟨fun _ => ⟨mkk_10 H, v8 10 (by omega) (by omega) rfl, ?_⟩, fun z => absurd rfl z⟩
    have e4 : zI S76 (ar 10) i = nI (M.1 4 0) := mv_F H3 hi 4 (by omega) (by omega) (by omega) (by omega)
    rw [c8, e4]
    unfold wJ_X7_form_193
    refine ⟨mkk_10 H, v8 10 (by omega) (by omega) rfl, fun S83 e83 => ⟨mV_0 H, ar 11, mq_11 H, fun _ => ⟨mkk_11 H, v8 11 (by omega) (by omega) rfl, ?_⟩, fun z => absurd rfl z⟩⟩
    rw [c8] at e83
    have H4 := ms_F H3 4 (by omega) (by omega) (v := M.1 4 0) (by omega)
    have e83' : S83 = zsI S76 (ar (mA 4)) i (nI (M.1 4 0)) := e83
    rw [← e83', nsI_self] at H4
    have e5 : zI S83 (ar 11) i = nI (M.1 5 0) := mv_F H4 hi 5 (by omega) (by omega) (by omega) (by omega)
    rw [c8, e5]
    unfold wJ_X7_form_215
    refine ⟨mkk_11 H, v8 11 (by omega) (by omega) rfl, fun S91 e91 => ⟨fun _ => ?_, fun z => absurd rfl z⟩⟩
    rw [c8] at e91
    have H5 := ms_F H4 5 (by omega) (by omega) (v := M.1 5 0) (by omega)
    have e91' : S91 = zsI S83 (ar (mA 5)) i (nI (M.1 5 0)) := e91
    rw [← e91', nsI_self] at H5
    refine h226 S91 M H5 hM10 ?_
    rw [← hM]
    show _ = nTell (nsI (nsI (nLeave N) 2 0 10) 3 0 (R0.1 0 0)) (lN 3) (lN (R0.1 1 0)) (lN 0) (lN 0) 0 (lN (R0.1 0 0))
    rw [h0, h1]
  · refine ⟨fun z => absurd z (by decide), fun _ => ?_⟩
    unfold wJ_X7_form_193
    refine ⟨mkk_10 H, v8 10 (by omega) (by omega) rfl, fun S83 e83 => ⟨mV_0 H, ar 11, mq_11 H, fun z => absurd z (by decide), fun _ => ?_⟩⟩
    rw [c8] at e83
    have H4 := ms_F H3 4 (by omega) (by omega) (v := num) (by omega)
    have e83' : S83 = zsI S76 (ar (mA 4)) i (nI num) := e83
    rw [← e83'] at H4
    unfold wJ_X7_form_215
    refine ⟨mkk_11 H, v8 11 (by omega) (by omega) rfl, fun S91 e91 => ⟨fun z => absurd z (by decide), fun _ => ⟨mV_0 H, ?_⟩⟩⟩
    rw [c8] at e91
    have H5 := ms_F H4 5 (by omega) (by omega) (v := s) (by omega)
    have e91' : S91 = zsI S83 (ar (mA 5)) i (nI s) := e91
    rw [← e91'] at H5
    refine m_forget H5 hi (fun S96 H96 => h226 S96 _ H96 ?_ ?_)
    · rw [nForget_ne _ _ _ (by omega) (by omega), n1_ne _ _ _ _ (by omega), n1_ne _ _ _ _ (by omega)]; exact hM10
    · rw [← hM]
      show _ = nTell (nForget (nsI (nsI (nsI (nsI (nLeave N) 2 0 10) 3 0 (R0.1 0 0)) 4 0 (R0.1 0 0)) 5 0 (R0.1 1 0)) 101) (lN 3) (lN (R0.1 1 0)) (lN 0) (lN 0) 0 (lN (R0.1 0 0))
      rw [h0, h1]
end
