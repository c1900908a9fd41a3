/-! the reference's new ring, all of it -/
section
variable {Z : zZ} {S0 S : zS} {ar : Nat → Nat} {n w : Nat} {sg sg' : Nat → Nat} {u u' : Nat → Nat → Bool} {G : gT} {i : Nat} {N : nT} {r t l : Nat}
theorem zu_c {α : Type} (f : Nat → Nat → α) (a j : Nat) (v : α) (k c : Nat) : zu f a j v k c = if k = a ∧ c = j then v else f k c := rfl
theorem mQ_mk {A : Nat → Nat → Int32} {q num s : Nat} {R' : nT} (hn : n ≤ 8) (h5 : ∀ j, j < n → R'.1 5 j = (A 35 (8 * q + j)).toBitVec.toNat) : mQ (zu (zu (zu (zu (zu A 24 q (nI num)) 25 q (nI s)) 26 q (nI 0)) 27 q (nI (ls s))) 28 q (nI 0)) n q num s R' := by
  have e : ∀ j, zu (zu (zu (zu (zu A 24 q (nI num)) 25 q (nI s)) 26 q (nI 0)) 27 q (nI (ls s))) 28 q (nI 0) 35 j = A 35 j := fun j => by
    rw [zu_ne _ _ _ _ _ (by omega), zu_ne _ _ _ _ _ (by omega), zu_ne _ _ _ _ _ (by omega), zu_ne _ _ _ _ _ (by omega), zu_ne _ _ _ _ _ (by omega)]
  refine ⟨?_, ?_, ?_, ?_, ?_, fun j hj => ?_⟩
  · rw [zu_ne _ _ _ _ _ (by omega), zu_ne _ _ _ _ _ (by omega), zu_ne _ _ _ _ _ (by omega), zu_ne _ _ _ _ _ (by omega), zu_at, if_pos rfl]
  · rw [zu_ne _ _ _ _ _ (by omega), zu_ne _ _ _ _ _ (by omega), zu_ne _ _ _ _ _ (by omega), zu_at, if_pos rfl]
  · rw [zu_ne _ _ _ _ _ (by omega), zu_ne _ _ _ _ _ (by omega), zu_at, if_pos rfl]
  · rw [zu_ne _ _ _ _ _ (by omega), zu_at, if_pos rfl]
  · rw [zu_at, if_pos rfl]
  · rw [e, h5 j hj, nI_sur]
theorem mx_mono {G : gT} {S1 : zS} (H : zMV Z S0 ar n w sg u S1 G) : ∀ k k', ar k = ar k' ↔ k = k' := H.1.1.2.2
theorem m_form {s : Nat} (H : zMV Z S0 ar n w sg u S G) (hs : s < 2 ^ n) (hi : i < n) (his : s.testBit i = true) (hr : r < n) (hno : ∀ j, j < n → s.testBit j = false → (G.1 j).1 2 0 ≠ r) (h9 : ∀ j, j < n → (G.1 j).1 2 0 ≤ 8) (hh : ∀ r h, h < n → (G.2 r).1 2 0 = h + 1 → (G.1 h).1 2 0 = r) (h3 : ∀ j, j < n → (G.1 j).1 3 0 < 2 ^ 20) (h10 : ∀ j, j < n → (G.1 j).1 10 0 < 2 ^ 30) (hu6 : ∀ j, j < n → u 6 j = true → s.testBit j = true) (hu5 : ∀ j, u 5 j = false) {p : Bool} {Qp : Int32 → zS → Prop} (k : ∀ S' sg', sg' 9 = sg 9 → zMV Z S0 ar n w sg' uZ S' (gForm G n s r p) → Qp (nI (hxf G s n + 1)) S') : w_X7_form Z (ar 0) (nI s) (if p then 1 else 0) S Qp := by
  have hn := mV_n H
  have hs8 : s < 256 := Nat.lt_of_lt_of_le hs (Nat.pow_le_pow_right (by omega) hn.2.2.2.1)
  have hs0 : s ≠ 0 := fun e => by rw [e, Nat.zero_testBit] at his; exact Bool.noConfusion his
  have hls : ls s < n := ls_lt hs hn.2.2.2.1 hs0
  have hlb : s.testBit (ls s) = true := ls_bit (by omega)
  have hx : hxf G s n ≤ 2 ^ 20 - 1 := hxf_le (fun j hj _ => by have := h3 j (by omega); omega)
  have h16 := mx_mono H
  unfold w_X7_form
  refine m_number H h3 (fun y17 e17 => ⟨mV_0 H, m_freeSlot H (fun q hq hfree => ?_)⟩)
  rw [nI_1] at e17
  subst e17
  have c8 : (nI q).toNatClampNeg = q := nI_clamp (by omega)
  have v16 : ∀ k, 24 ≤ k → k < 29 → vp_in (nI q) (zN Z (ar k)) := fun k a b => (mv_ins H (k := k) (j := q) (m := 16) (by omega) (by omega) (by unfold mln; rw [if_neg (by omega), if_neg (by omega), if_neg (by omega), if_neg (by omega), if_pos (by omega)]) (by omega) hq).1
  refine ⟨ar 24, mq_24 H, mkk_24 H, v16 24 (by omega) (by omega), fun S25 e25 => ⟨ar 25, mq_25 H, mkk_25 H, v16 25 (by omega) (by omega), fun S30 e30 => ⟨ar 26, mq_26 H, mkk_26 H, v16 26 (by omega) (by omega), fun S35 e35 => ⟨ar 27, mq_27 H, m_least hs8 hs0 ⟨mkk_27 H, v16 27 (by omega) (by omega), fun S42 e42 => ⟨ar 28, mq_28 H, mkk_28 H, v16 28 (by omega) (by omega), fun S47 e47 => ?_⟩⟩⟩⟩⟩⟩
  rw [c8] at e25 e30 e35 e42 e47
  have hq10 : ∀ j, j < n → (G.1 j).1 2 0 ≠ 10 := fun j hj => by have := h9 j hj; omega
  -- the slot's cells
  have hb : zMb Z S0 ar S47 := by
    rw [e47, e42, e35, e30, e25]
    exact zMb_I (zMb_I (zMb_I (zMb_I (zMb_I H.1 (by omega) _ _) (by omega) _ _) (by omega) _ _) (by omega) _ _) (by omega) _ _
  have hJ : mJ S47 ar = mJ S ar := by rw [e47, e42, e35, e30, e25]; rfl
  have hI : mI S47 ar = zu (zu (zu (zu (zu (mI S ar) 24 q (nI (hxf G s n + 1))) 25 q (nI s)) 26 q (nI 0)) 27 q (nI (ls s))) 28 q (nI 0) := by
    rw [e47, e42, e35, e30, e25, mI_I h16, mI_I h16, mI_I h16, mI_I h16, mI_I h16]
    rfl
  obtain ⟨R1, hR1⟩ : ∃ R1 : nT, R1 = (fun f j => if f = 5 then (mI S ar 35 (8 * q + j)).toBitVec.toNat else (rNew G n s r).1 f j, (rNew G n s r).2) := ⟨_, rfl⟩
  have hR15 : ∀ j, R1.1 5 j = (mI S ar 35 (8 * q + j)).toBitVec.toNat := fun j => by
    rw [hR1]
    show (if (5 : Nat) = 5 then (mI S ar 35 (8 * q + j)).toBitVec.toNat else (rNew G n s r).1 5 j) = _
    rw [if_pos rfl]
  have hRf : ∀ f j, f ≠ 5 → R1.1 f j = (rNew G n s r).1 f j := fun f j hf => by rw [hR1]; exact if_neg hf
  have hrI : rIs R1 (hxf G s n + 1) s := ⟨by rw [hRf 0 0 (by omega)]; rfl, by rw [hRf 1 0 (by omega)]; rfl, by rw [hRf 2 0 (by omega)]; rfl, by rw [hRf 3 0 (by omega)]; rfl⟩
  obtain ⟨sA, hsA⟩ : ∃ sA : Nat → Nat, sA = fun k => if k = 10 then q else sg k := ⟨_, rfl⟩
  have sA10 : sA 10 = q := by rw [hsA]; exact if_pos rfl
  have sAn : ∀ k, k ≠ 10 → sA k = sg k := fun k hk => by rw [hsA]; exact if_neg hk
  have hQ0 : mQ (mI S47 ar) n q (hxf G s n + 1) s R1 := by rw [hI]; exact mQ_mk hn.2.2.2.1 (fun j _ => hR15 j)
  have H0 : zMV Z S0 ar n w sA u S47 (gFm G s (rNew G n s r) R1 p 0) := by
    rw [gFm_0]
    refine ⟨hb, ?_⟩
    rw [hJ, hI]
    refine mC_free H.2 hq10 hfree sAn (fun k hk => ?_) (fun k h1 h2 c hc => ?_)
    · rw [zu_ne _ _ _ _ _ (by omega), zu_ne _ _ _ _ _ (by omega), zu_ne _ _ _ _ _ (by omega), zu_ne _ _ _ _ _ (by omega), zu_ne _ _ _ _ _ (by omega)]
    · rw [zu_c, if_neg (fun z => hc z.2), zu_c, if_neg (fun z => hc z.2), zu_c, if_neg (fun z => hc z.2), zu_c, if_neg (fun z => hc z.2), zu_c, if_neg (fun z => hc z.2)]
  refine zlp2 (fun y S' => ∃ m R' u', m ≤ n ∧ y = nI m ∧ zMV Z S0 ar n w sA u' S' (gFm G s (rNew G n s r) R' p m) ∧ mQ (mI S' ar) n q (hxf G s n + 1) s R' ∧ rIs R' (hxf G s n + 1) s ∧ (∀ j, j < m → R'.1 5 j = 0) ∧ (∀ j, u' 5 j = false) ∧ ∀ j, j < n → u' 6 j = true → s.testBit j = true ∧ m ≤ j) (fun y _ => 9 - y.toNatClampNeg) (fun rec y S' hIv hrec => ?_) _ S47 ⟨0, R1, u, by omega, rfl, H0, hQ0, hrI, fun j hj => absurd hj (by omega), hu5, fun j hj z => ⟨hu6 j hj z, by omega⟩⟩
  obtain ⟨m, R', u', hm, rfl, H', hQ, hrI', hz, hu5', hu6'⟩ := hIv
  have hle : (nI n ≤ nI m) ↔ n ≤ m := nI_leI (by omega) (by omega)
  unfold wb_X7_form_107
  rw [(mV_n H').1, hle]
  refine ⟨mV_0 H, fun q1 => ?_, fun q1 => ?_⟩
  · have : m = n := by omega
    subst this
    refine k S' (fun k => if k = r then q else sA k) ?_ ⟨H'.1, ?_⟩
    · show (if 9 = r then q else sA 9) = sg 9
      rw [if_neg (by omega), sAn 9 (by omega)]
    · refine mC_show (mC_ren H'.2 hr h9 hno (fun k hk => if_neg hk) ((if_pos rfl).trans sA10.symm) hrI' (fun j hj => hz j hj) (fun j _ => hu5' j)) (fun j _ _ => hu5' j) (fun j hj _ => ?_)
      cases e : u' 6 j
      · rfl
      · have := (hu6' j hj e).2; omega
  · have hmn : m < n := by omega
    have hμ : 9 - (nI (m + 1)).toNatClampNeg < 9 - (nI m).toNatClampNeg := by rw [nI_clamp (by omega), nI_clamp (by omega)]; omega
    have e8 : (8 : Int32) * nI q + nI m = nI (8 * q + m) := by
      rw [← nI_add]
      exact congrArg (· + nI m) (pk_mul 8 _)
    rw [e8]
    obtain ⟨v35, c35⟩ := mv_ins H (k := 35) (j := 8 * q + m) (m := 128) (by omega) (by omega) rfl (by omega) (by omega)
    refine ⟨ar 35, mq_35 H, mkk_35 H, v35, fun S53 e53 => ?_⟩
    rw [c35] at e53
    have e10 : (gFm G s (rNew G n s r) R' p m).2 10 = R' := by
      show (if (10 : Nat) = 10 then R' else rLv (G.2 10) s m) = R'
      rw [if_pos rfl]
    have hfr : ∀ j, j < n → ((gFm G s (rNew G n s r) R' p m).1 j).1 2 0 ≠ 8 → ((gFm G s (rNew G n s r) R' p m).1 j).1 2 0 ≠ 10 → sA (((gFm G s (rNew G n s r) R' p m).1 j).1 2 0) ≠ q := fun j hj a b => by
      by_cases c : j < m ∧ s.testBit j = true
      · have : (gFm G s (rNew G n s r) R' p m).1 j = nJoin (nLeave (G.1 j)) (rNew G n s r) 10 p := if_pos c
        rw [this, (nJoin_f _ _ _ _).1] at b
        exact absurd rfl b
      · have : (gFm G s (rNew G n s r) R' p m).1 j = G.1 j := if_neg c
        rw [this] at a b ⊢
        rw [sAn _ b]
        exact hfree j hj a
    have hI53 : mI S53 ar = zu (mI S' ar) 35 (8 * q + m) (nI 0) := by rw [e53]; exact mI_I h16 _ _ _
    have hJ53 : mJ S53 ar = mJ S' ar := by rw [e53]; rfl
    have H1 : zMV Z S0 ar n w sA u' S53 (gFm G s (rNew G n s r) (nsI R' 5 m 0) p m) := by
      rw [← gFm_R G s (rNew G n s r) R' (nsI R' 5 m 0) p m]
      refine ⟨by rw [e53]; exact zMb_I H'.1 (by omega) _ _, ?_⟩
      rw [hI53, hJ53]
      exact mC_J0 H'.2 e10 sA10 hfr (by omega) (fun k hk => zu_ne _ _ _ _ _ hk) (fun c => zu_at _ _ _ _ _)
    have hrI1 : rIs (nsI R' 5 m 0) (hxf G s n + 1) s := ⟨by rw [n1_ne _ _ _ _ (by omega)]; exact hrI'.1, by rw [n1_ne _ _ _ _ (by omega)]; exact hrI'.2.1, by rw [n1_ne _ _ _ _ (by omega)]; exact hrI'.2.2.1, by rw [n1_ne _ _ _ _ (by omega)]; exact hrI'.2.2.2⟩
    have hQ1 : mQ (mI S53 ar) n q (hxf G s n + 1) s (nsI R' 5 m 0) := by
      obtain ⟨a1, a2, a3, a4, a5, a6⟩ := hQ
      unfold mQ
      rw [hI53, zu_ne _ _ _ _ _ (by omega), zu_ne _ _ _ _ _ (by omega), zu_ne _ _ _ _ _ (by omega), zu_ne _ _ _ _ _ (by omega), zu_ne _ _ _ _ _ (by omega)]
      refine ⟨a1, a2, a3, a4, a5, fun j hj => ?_⟩
      rw [zu_at, n1_sI]
      by_cases e : j = m
      · rw [if_pos (by omega), if_pos ⟨rfl, e⟩]
      · rw [if_neg (by omega), if_neg (fun z => e z.2)]; exact a6 j hj
    have hz1 : ∀ j, j < m + 1 → (nsI R' 5 m 0).1 5 j = 0 := fun j hj => by
      rw [n1_sI]
      by_cases e : j = m
      · rw [if_pos ⟨rfl, e⟩]
      · rw [if_neg (fun z => e z.2)]; exact hz j (by omega)
    generalize hR2 : nsI R' 5 m 0 = R2 at *
    refine m_isIn (by omega) ?_
    rw [bt_nI _ (by omega)]
    refine ⟨fun q3 y e => ?_, fun q3 => ⟨ar 5, mq_5 H, mkk_5 H, (mv_in8 H (k := 5) (by omega) (by omega) rfl hmn).1, fun S61 e61 => ?_⟩⟩
    · have hf := z01_if.mp q3
      rw [nI_1] at e
      subst e
      refine hrec _ _ ⟨m + 1, R2, u', by omega, rfl, by rw [gFm_s0 G _ _ _ hf]; exact H1, hQ1, hrI1, hz1, hu5', fun j hj z => ⟨(hu6' j hj z).1, ?_⟩⟩ hμ
      have h1 := hu6' j hj z
      have : j ≠ m := fun e => by rw [e, hf] at h1; exact absurd h1.1 (by decide)
      omega
    · have hmb : s.testBit m = true := Classical.byContradiction (fun z => by rw [if_neg z] at q3; exact q3 rfl)
      rw [(mv_in8 H (k := 5) (by omega) (by omega) rfl hmn).2] at e61
      have hGm : (gFm G s (rNew G n s r) R2 p m).1 m = G.1 m := if_neg (fun z => by omega)
      have e10' : (gFm G s (rNew G n s r) R2 p m).2 10 = R2 := by
        show (if (10 : Nat) = 10 then R2 else rLv (G.2 10) s m) = R2
        rw [if_pos rfl]
      have hI61 : mI S61 ar = zu (mI S53 ar) 5 m (nI q) := by rw [e61]; exact mI_I h16 _ _ _
      have hJ61 : mJ S61 ar = mJ S53 ar := by rw [e61]; rfl
      have hlm : ls s ≤ m := by
        refine Nat.le_of_not_lt (fun z => ?_)
        have := ls_low z
        rw [hmb] at this
        exact Bool.noConfusion this
      have hC := mC_J1 (A' := mI S61 ar) H1.2 e10' sA10 hq (m := m) (fun j hj a b => by
          by_cases c : j < m ∧ s.testBit j = true
          · have : (gFm G s (rNew G n s r) R2 p m).1 j = nJoin (nLeave (G.1 j)) (rNew G n s r) 10 p := if_pos c
            rw [this, (nJoin_f _ _ _ _).1] at b
            exact absurd rfl b
          · have : (gFm G s (rNew G n s r) R2 p m).1 j = G.1 j := if_neg c
            rw [this] at a b ⊢
            rw [sAn _ b]
            exact hfree j hj a) hmn (by rw [hGm]; exact hq10 m hmn) hQ1 hrI1 hls hlb (by
          by_cases e : ls s = m
          · exact Or.inl e
          · refine Or.inr ?_
            have : (gFm G s (rNew G n s r) R2 p m).1 (ls s) = nJoin (nLeave (G.1 (ls s))) (rNew G n s r) 10 p := if_pos ⟨by omega, hlb⟩
            rw [this]
            exact (nJoin_f _ _ _ _).1) (fun k hk => by rw [hI61]; exact zu_ne _ _ _ _ _ hk) (fun c => by rw [hI61]; exact zu_at _ _ _ _ _) hu5'
      rw [hGm, ← hJ61] at hC
      have H2 : zMV Z S0 ar n w sA (uOff u' m) S61 _ := ⟨by rw [e61]; exact zMb_I H1.1 (by omega) _ _, hC⟩
      refine m_joins (p := p) (R0 := rNew G n s r) (num := hxf G s n + 1) (s := s) rfl rfl (by omega) (by omega) H2 hmn (h10 m hmn) (fun S9 u9 hu59 hu69 H9 => ?_)
      have hgs := gFm_s1 G (rNew G n s r) R2 p hmb (fun r' he => hh r' m hmn he) (hq10 m hmn)
      rw [← hgs] at H9
      have hu59' : ∀ j, u9 5 j = false := fun j => by rw [hu59, uOff_5]; exact hu5' j
      rw [nI_1]
      have hring : ((gFm G s (rNew G n s r) R2 p (m + 1)).1 m).1 2 0 = 10 := by
        have : (gFm G s (rNew G n s r) R2 p (m + 1)).1 m = nJoin (nLeave (G.1 m)) (rNew G n s r) 10 p := if_pos ⟨by omega, hmb⟩
        rw [this]
        exact (nJoin_f _ _ _ _).1
      have e10'' : (gFm G s (rNew G n s r) R2 p (m + 1)).2 10 = R2 := by
        show (if (10 : Nat) = 10 then R2 else rLv (G.2 10) s (m + 1)) = R2
        rw [if_pos rfl]
      have hRg := (mV_N H9 hmn).2.2.2 (by rw [hring]; omega)
      rw [hring] at hRg
      refine hrec _ _ ⟨m + 1, R2, u9, by omega, rfl, H9, mQ_of sA10 hRg (fun j _ => hu59' j) e10'' hrI1, hrI1, hz1, hu59', fun j hj z => ?_⟩ hμ
      obtain ⟨z1, z2⟩ := hu69 j z
      unfold uOff at z1
      rw [if_neg (fun y => z2 y.2)] at z1
      have := hu6' j hj z1
      exact ⟨this.1, by omega⟩
end
