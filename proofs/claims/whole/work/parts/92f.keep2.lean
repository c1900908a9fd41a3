/-! old rings' ends and tables keep what holds -/
section
variable {n : Nat} {G G' : gT} {t l l' : Nat}
theorem W_all (h : gW n G t l) (e2 : G'.2 = G.2) (e : ∀ j, j < n → ∀ f x, f < 6 ∨ 10 < f ∧ f < 14 → (G'.1 j).1 f x = (G.1 j).1 f x) (b : ∀ j, j < n → (G'.1 j).1 6 0 ≤ 100 ∧ (G'.1 j).1 7 0 ≤ 100 ∧ (G'.1 j).1 9 0 ≤ 100 ∧ (G'.1 j).1 8 0 ≤ l' ∧ (G'.1 j).1 10 0 ≤ l') (b14 : ∀ j, j < n → ∀ p, (G'.1 j).1 14 p < 2 ∧ ((G'.1 j).1 14 p ≠ 0 → (G'.1 j).1 15 p < 16 ∧ p < 101)) (bh : ∀ j, j < n → ∀ p, (G'.1 j).1 16 p ≠ 0 → (G.1 j).1 2 0 ≠ 8 ∧ 1 ≤ p ∧ p ≤ (G.2 ((G.1 j).1 2 0)).1 3 0) (bi : ∀ j, j < n → (G.1 j).1 2 0 = 8 → (G'.1 j).1 6 0 = 0 ∧ (G'.1 j).1 7 0 = 0) (hK' : iv_K n G') : gW n G' t l' := by
  obtain ⟨hnd, hrg, ht, ⟨s1, s2, s3, s4, s5, s6⟩, hV, hK⟩ := h
  refine ⟨fun j hj => ⟨?_, ?_, fun q hq => ?_, b14 j hj⟩, by rw [show iv_rg n G' = iv_rg n G by unfold iv_rg; rw [e2]]; exact hrg, ⟨fun j hj => ?_, by rw [e2]; exact ht.2⟩, ⟨fun j hj p hp => ?_, by unfold iv_req; rw [e2]; exact s2, fun r k hk hr => ?_, by unfold iv_none; rw [e2]; exact s4, fun j hj hu => ?_, fun j hj h8 => ?_⟩, iv_V_of hV (fun j hj => ⟨e j hj 2 0 (by omega), e j hj 3 0 (by omega), e j hj 4 0 (by omega), e j hj 5 0 (by omega)⟩) (fun r => by rw [e2]; exact ⟨rfl, rfl⟩), hK'⟩
  · rw [e j hj 0 0 (by omega), e j hj 1 0 (by omega), e j hj 2 0 (by omega), e j hj 5 0 (by omega)]
    exact (hnd j hj).1
  · rw [e j hj 11 0 (by omega)]
    have z := b j hj
    exact ⟨z.1, z.2.1, z.2.2.1, (hnd j hj).2.1.2.2.2⟩
  · rw [e j hj 11 0 (by omega)] at hq
    rw [e j hj 12 q (by omega), e j hj 13 q (by omega)]
    exact (hnd j hj).2.2.1 q hq
  · rw [e j hj 3 0 (by omega), e j hj 4 0 (by omega)]
    have z := b j hj
    have y := ht.1 j hj
    exact ⟨y.1, y.2.1, z.2.2.2.1, z.2.2.2.2⟩
  · rw [e j hj 2 0 (by omega), e2]; exact bh j hj p hp
  · rw [e2] at hr
    rw [e k hk 2 0 (by omega)]; exact s3 r k hk hr
  · rw [e j hj 0 0 (by omega)] at hu
    rw [e j hj 2 0 (by omega)]; exact s5 j hj hu
  · rw [e j hj 2 0 (by omega)] at h8; exact bi j hj h8
theorem dlf_6 (R : nT) (t : Nat) : ∀ (k : Nat) (g : Bool) (N : nT), N.1 6 0 ≤ 100 → (dlf R t k g N).1 6 0 ≤ 100 := by
  intro k
  induction k with
  | zero => intro g N h; exact h
  | succ k ih =>
    intro g N h
    unfold dlf
    split
    · exact ih _ _ h
    · split
      · exact ih _ _ (by rw [nTellM_6]; omega)
      · exact ih _ _ h
theorem dlf_j (R : nT) (t : Nat) {f : Nat} (x : Nat) (h : f ≠ 2) : ∀ (k : Nat) (g : Bool) (N : nT), (dlf R t k g N).2 f x = N.2 f x := by
  intro k
  induction k with
  | zero => intro g N; rfl
  | succ k ih =>
    intro g N
    unfold dlf
    split
    · exact ih _ _
    · split
      · rw [ih, nTellM_j _ _ _ _ _ _ _ h]
      · exact ih _ _
theorem nEndT_j (N R : nT) (t : Nat) {f : Nat} (x : Nat) (h : f ≠ 2) (h0 : f ≠ 0) (h1 : f ≠ 1) : (nEndT N R t).2 f x = N.2 f x := by
  unfold nEndT
  rw [dlf_j _ _ _ h, nTell_j _ _ _ _ _ _ _ _ h, dlv_j _ _ h h0 h1]
theorem nEndT_b (N R : nT) (t : Nat) (h6 : N.1 6 0 ≤ 100) (h9 : N.1 9 0 ≤ 100) : (nEndT N R t).1 6 0 ≤ 100 ∧ (nEndT N R t).1 9 0 ≤ 100 ∧ (nEndT N R t).1 8 0 ≤ N.1 8 0 + 100 ∧ (nEndT N R t).1 10 0 ≤ N.1 10 0 + 201 := by
  unfold nEndT
  obtain ⟨a10, a8, aff⟩ := dlv_facts R (100 - N.1 6 0) N
  have a6 := dlv_6 R (100 - N.1 6 0) N (by omega) (by omega)
  have a9 := dlv_9 R (100 - N.1 6 0) N h9
  generalize dlv R (100 - N.1 6 0) N = D at *
  obtain ⟨c10, cff⟩ := dlf_facts R t (100 - D.1 6 0) false (nTell D (lN 2) (lN t) (lN 0) (lN 0) 0 (lN (R.1 0 0)))
  rw [nTell_10] at c10
  refine ⟨dlf_6 _ _ _ _ _ (by rw [nTell_ne _ _ _ _ _ _ _ _ (by omega)]; exact a6.2), ?_, ?_, by omega⟩
  · rw [cff 9 0 (by omega) (by omega), nTell_ne _ _ _ _ _ _ _ _ (by omega)]; exact a9
  · rw [cff 8 0 (by omega) (by omega), nTell_ne _ _ _ _ _ _ _ _ (by omega)]; omega
/-- what those who share keep -/
theorem nGets_K (N R : nT) (A : Nat → Bool) (x : Nat) : ((nGets N R A).1 14 x = N.1 14 x ∧ (nGets N R A).1 15 x = N.1 15 x ∧ (nGets N R A).2 14 x = N.2 14 x) ∨ (A x = true ∧ N.1 4 0 = R.1 0 0 ∧ (nGets N R A).1 14 x = 1 ∧ (nGets N R A).1 15 x = R.1 7 x ∧ (nGets N R A).2 14 x = R.2 6 x) := by
  by_cases c : A x = true ∧ R.1 8 x ≠ 0 ∧ prim N R = true
  · refine Or.inr ⟨c.1, prim_num c.2.2, ?_, ?_, ?_⟩
    · show (if A x = true then (if 14 = 16 then 1 else if R.1 8 x ≠ 0 ∧ prim N R = true ∧ 14 = 14 then 1 else if R.1 8 x ≠ 0 ∧ prim N R = true ∧ 14 = 15 then R.1 7 x else N.1 14 x) else N.1 14 x) = 1
      rw [if_pos c.1, if_neg (by omega), if_pos ⟨c.2.1, c.2.2, rfl⟩]
    · show (if A x = true then (if 15 = 16 then 1 else if R.1 8 x ≠ 0 ∧ prim N R = true ∧ 15 = 14 then 1 else if R.1 8 x ≠ 0 ∧ prim N R = true ∧ 15 = 15 then R.1 7 x else N.1 15 x) else N.1 15 x) = _
      rw [if_pos c.1, if_neg (by omega), if_neg (fun z => by omega), if_pos ⟨c.2.1, c.2.2, rfl⟩]
    · show (if A x = true ∧ R.1 8 x ≠ 0 ∧ prim N R = true ∧ 14 = 14 then R.2 6 x else N.2 14 x) = _
      rw [if_pos ⟨c.1, c.2.1, c.2.2, rfl⟩]
  · refine Or.inl ⟨?_, ?_, ?_⟩
    · show (if A x = true then (if 14 = 16 then 1 else if R.1 8 x ≠ 0 ∧ prim N R = true ∧ 14 = 14 then 1 else if R.1 8 x ≠ 0 ∧ prim N R = true ∧ 14 = 15 then R.1 7 x else N.1 14 x) else N.1 14 x) = _
      by_cases a : A x = true
      · rw [if_pos a, if_neg (by omega), if_neg (fun z => c ⟨a, z.1, z.2.1⟩), if_neg (fun z => by omega)]
      · rw [if_neg a]
    · show (if A x = true then (if 15 = 16 then 1 else if R.1 8 x ≠ 0 ∧ prim N R = true ∧ 15 = 14 then 1 else if R.1 8 x ≠ 0 ∧ prim N R = true ∧ 15 = 15 then R.1 7 x else N.1 15 x) else N.1 15 x) = _
      by_cases a : A x = true
      · rw [if_pos a, if_neg (by omega), if_neg (fun z => by omega), if_neg (fun z => c ⟨a, z.1, z.2.1⟩)]
      · rw [if_neg a]
    · show (if A x = true ∧ R.1 8 x ≠ 0 ∧ prim N R = true ∧ 14 = 14 then R.2 6 x else N.2 14 x) = _
      rw [if_neg (fun z => c ⟨z.1, z.2.1, z.2.2.1⟩)]
theorem W_endD {s : Nat} {D : Nat → Bool} (h : gW n G t l) : gW n (gEndD G n s D) t (l + 201) := by
  have hK := h.2.2.2.2.2
  have hV := h.2.2.2.2.1
  -- each node: as before, or ended
  have key : ∀ j, j < n → (gEndD G n s D).1 j = G.1 j ∨ ((G.1 j).1 2 0 ≠ 8 ∧ (gEndD G n s D).1 j = nEndAll G n (ofSet G n s ((G.1 j).1 2 0)) ((G.1 j).1 2 0) j) := fun j hj => by
    by_cases c : j < n ∧ s.testBit j = true ∧ (G.1 j).1 2 0 ≠ 8 ∧ D ((G.1 j).1 2 0) = true
    · exact Or.inr ⟨c.2.2.1, if_pos c⟩
    · exact Or.inl (if_neg c)
  -- what the others of its ring have lies within the ring's places
  have hA : ∀ j, j < n → (G.1 j).1 2 0 ≠ 8 → ∀ x, haveA G n (ofSet G n s ((G.1 j).1 2 0)) x = true → 1 ≤ x ∧ x ≤ (G.2 ((G.1 j).1 2 0)).1 3 0 := fun j hj h8 x hx => by
    unfold haveA at hx
    rw [Bool.and_eq_true, Bool.and_eq_true, decide_eq_true_iff, decide_eq_true_iff, anyf_iff] at hx
    obtain ⟨a, -, m, hm, hms, hmx⟩ := hx
    have hmr := ((ofSet_bit _ _ _ _ _).mp hms).2.1
    have := h.2.2.2.1.1 m hm x hmx
    rw [hmr] at this
    exact ⟨a, this.2.2⟩
  have hmx : ∀ u, mxf G u n ≤ 100 := fun u => mxf_le (fun j hj => (h.1 j hj).2.1.2.1)
  refine W_all h rfl (fun j hj f x hf => ?_) (fun j hj => ?_) (fun j hj p => ?_) (fun j hj p hp => ?_) (fun j hj h8 => ?_) (iv_K_more hV hK rfl (fun j hj => ⟨?_, ?_, fun x => ?_⟩))
  · exact gEndD_ne _ _ _ _ _ _ (by omega) (by omega) (by omega) (by omega) (by omega) (by omega) (by omega) (by omega)
  · have b := (h.1 j hj).2.1
    have c := h.2.2.1.1 j hj
    rcases key j hj with e | ⟨h8, e⟩
    · rw [e]; exact ⟨b.1, b.2.1, b.2.2.1, by omega, by omega⟩
    · rw [e]
      have hm := hmx (ofSet G n s ((G.1 j).1 2 0))
      refine ⟨?_, by rw [nEndAll_7]; exact hm, ?_⟩
      · refine (nEndT_b _ _ _ ?_ ?_).1
        · rw [n1_ne _ _ _ _ (by omega), nGets_ne _ _ _ _ (by omega) (by omega) (by omega)]; exact b.1
        · rw [n1_ne _ _ _ _ (by omega), nGets_ne _ _ _ _ (by omega) (by omega) (by omega)]; exact b.2.2.1
      · have z := nEndT_b (nsI (nGets (G.1 j) (G.2 ((G.1 j).1 2 0)) (haveA G n (ofSet G n s ((G.1 j).1 2 0)))) 7 0 (mxf G (ofSet G n s ((G.1 j).1 2 0)) n)) (G.2 ((G.1 j).1 2 0)) (ofSet G n s ((G.1 j).1 2 0)) (by rw [n1_ne _ _ _ _ (by omega), nGets_ne _ _ _ _ (by omega) (by omega) (by omega)]; exact b.1) (by rw [n1_ne _ _ _ _ (by omega), nGets_ne _ _ _ _ (by omega) (by omega) (by omega)]; exact b.2.2.1)
        rw [n1_ne (nGets (G.1 j) _ _) _ _ _ (by omega : (8 : Nat) ≠ 7), n1_ne (nGets (G.1 j) _ _) _ _ _ (by omega : (10 : Nat) ≠ 7), nGets_ne _ _ _ _ (by omega : (8 : Nat) ≠ 16) (by omega) (by omega), nGets_ne _ _ _ _ (by omega : (10 : Nat) ≠ 16) (by omega) (by omega)] at z
        refine ⟨z.2.1, ?_, ?_⟩
        · exact Nat.le_trans z.2.2.1 (by omega)
        · exact Nat.le_trans z.2.2.2 (by omega)
  · have b := (h.1 j hj).2.2.2 p
    rcases key j hj with e | ⟨h8, e⟩
    · rw [e]; exact b
    · rw [e]
      unfold nEndAll
      rw [nEndT_ne _ _ _ _ (by omega) (by omega) (by omega) (by omega), nEndT_ne _ _ _ _ (by omega) (by omega) (by omega) (by omega), n1_ne _ _ _ _ (by omega), n1_ne _ _ _ _ (by omega)]
      rcases nGets_K (G.1 j) (G.2 ((G.1 j).1 2 0)) (haveA G n (ofSet G n s ((G.1 j).1 2 0))) p with ⟨a1, a2, -⟩ | ⟨a1, -, a3, a4, -⟩
      · rw [a1, a2]; exact b
      · rw [a3, a4]
        have z := hA j hj h8 p a1
        have y := (h.2.1 ((G.1 j).1 2 0)).1.2.2
        exact ⟨by omega, fun _ => ⟨((h.2.1 ((G.1 j).1 2 0)).2.2.2 p (by omega)).2.1, by omega⟩⟩
  · rcases key j hj with e | ⟨h8, e⟩
    · rw [e] at hp; exact h.2.2.2.1.1 j hj p hp
    · rw [e] at hp
      unfold nEndAll at hp
      rw [nEndT_ne _ _ _ _ (by omega) (by omega) (by omega) (by omega), n1_ne _ _ _ _ (by omega), nGets_16] at hp
      by_cases c : haveA G n (ofSet G n s ((G.1 j).1 2 0)) p = true
      · exact ⟨h8, hA j hj h8 p c⟩
      · rw [if_neg c] at hp
        exact h.2.2.2.1.1 j hj p hp
  · rcases key j hj with e | ⟨h8', e⟩
    · rw [e]; exact h.2.2.2.1.2.2.2.2.2 j hj h8
    · exact absurd h8 h8'
  · exact gEndD_ne _ _ _ _ _ _ (by omega) (by omega) (by omega) (by omega) (by omega) (by omega) (by omega) (by omega)
  · exact gEndD_ne _ _ _ _ _ _ (by omega) (by omega) (by omega) (by omega) (by omega) (by omega) (by omega) (by omega)
  · rcases key j hj with e | ⟨h8, e⟩
    · rw [e]; exact Or.inl ⟨rfl, rfl, rfl⟩
    · rw [e]
      unfold nEndAll
      rw [nEndT_ne _ _ _ _ (by omega) (by omega) (by omega) (by omega), nEndT_ne _ _ _ _ (by omega) (by omega) (by omega) (by omega), nEndT_j _ _ _ _ (by omega) (by omega) (by omega), n1_ne _ _ _ _ (by omega), n1_ne _ _ _ _ (by omega), n2_sI]
      rcases nGets_K (G.1 j) (G.2 ((G.1 j).1 2 0)) (haveA G n (ofSet G n s ((G.1 j).1 2 0))) x with a | ⟨a1, a2, -, a4, a5⟩
      · exact Or.inl a
      · exact Or.inr ⟨h8, (hA j hj h8 x a1).2, a2, a4, a5⟩
theorem W_ended {s : Nat} (h : gW n G t l) : gW n (gEnded G n s) t (l + 201) := W_endD h
theorem nCopyF_ne (N M : nT) {f : Nat} (x : Nat) (h : f ≠ 8) : (nCopyF N M).1 f x = N.1 f x := by
  unfold nCopyF
  rw [n1_sJ, n1_ne _ _ _ _ h]
  rfl
theorem nCopyF_8 (N M : nT) : (nCopyF N M).1 8 0 = M.1 8 0 := by
  unfold nCopyF
  rw [n1_sJ, n1_eq]
theorem nCopyF_j (N M : nT) {f : Nat} (x : Nat) (h0 : f ≠ 0) (h1 : f ≠ 1) : (nCopyF N M).2 f x = N.2 f x := by
  unfold nCopyF
  rw [n2_ne _ _ _ _ h0, n2_sI]
  show (if f = 1 ∧ x < 16 then M.2 1 x else N.2 f x) = _
  rw [if_neg (fun z => h1 z.1)]
theorem upd2_9 (K : Nat → Option (Nat × Int64)) : ∀ (k : Nat) (B : nT), B.1 9 0 ≤ 100 → (upd2 K k B).1 9 0 ≤ 100 := by
  intro k
  induction k with
  | zero => intro B h; exact h
  | succ k ih =>
    intro B h
    unfold upd2
    refine ih _ ?_
    split
    · unfold nApply; rw [n1_eq]; omega
    · exact h
theorem gTab_ne (G : gT) (n s b j : Nat) {f : Nat} (x : Nat) (h8 : f ≠ 8) (h9 : f ≠ 9) : ((gTab G n s b).1 j).1 f x = (G.1 j).1 f x := by
  unfold gTab
  generalize hB : upd2 (keptOf G n s ((G.1 b).1 4 0)) (100 - (G.1 b).1 9 0) (G.1 b) = B
  have e : ∀ j, ((gN G b B).1 j).1 f x = (G.1 j).1 f x := fun j => by
    rw [g1_N]
    split
    · rename_i q; rw [← hB, (upd2_facts _ _ _).2.1 f x h8 h9, q]
    · rfl
  show (if j < n ∧ s.testBit j = true then nCopyF ((gN G b B).1 j) B else (gN G b B).1 j).1 f x = _
  split
  · rw [nCopyF_ne _ _ _ h8, e]
  · exact e j
theorem gTab_j (G : gT) (n s b j : Nat) {f : Nat} (x : Nat) (h0 : f ≠ 0) (h1 : f ≠ 1) : ((gTab G n s b).1 j).2 f x = (G.1 j).2 f x := by
  unfold gTab
  generalize hB : upd2 (keptOf G n s ((G.1 b).1 4 0)) (100 - (G.1 b).1 9 0) (G.1 b) = B
  have e : ∀ j, ((gN G b B).1 j).2 f x = (G.1 j).2 f x := fun j => by
    rw [g1_N]
    split
    · rename_i q; rw [← hB, (upd2_facts _ _ _).2.2 f x h0 h1, q]
    · rfl
  show (if j < n ∧ s.testBit j = true then nCopyF ((gN G b B).1 j) B else (gN G b B).1 j).2 f x = _
  split
  · rw [nCopyF_j _ _ _ h0 h1, e]
  · exact e j
theorem W_tab {s b : Nat} (h : gW n G t l) (hb : b < n) : gW n (gTab G n s b) t (l + 100) := by
  have h8 : ∀ j, j < n → ((gTab G n s b).1 j).1 8 0 ≤ l + 100 ∧ ((gTab G n s b).1 j).1 9 0 ≤ 100 := fun j hj => by
    unfold gTab
    have hf := upd2_facts (keptOf G n s ((G.1 b).1 4 0)) (100 - (G.1 b).1 9 0) (G.1 b)
    have h9 := upd2_9 (keptOf G n s ((G.1 b).1 4 0)) (100 - (G.1 b).1 9 0) (G.1 b) (h.1 b hb).2.1.2.2.1
    generalize upd2 (keptOf G n s ((G.1 b).1 4 0)) (100 - (G.1 b).1 9 0) (G.1 b) = B at *
    have c := h.2.2.1.1 j hj
    have cb := h.2.2.1.1 b hb
    have e : ((gN G b B).1 j).1 8 0 ≤ l + 100 ∧ ((gN G b B).1 j).1 9 0 ≤ 100 := by
      rw [g1_N]
      split
      · exact ⟨by omega, h9⟩
      · exact ⟨by omega, (h.1 j hj).2.1.2.2.1⟩
    show (if j < n ∧ s.testBit j = true then nCopyF ((gN G b B).1 j) B else (gN G b B).1 j).1 8 0 ≤ l + 100 ∧ (if j < n ∧ s.testBit j = true then nCopyF ((gN G b B).1 j) B else (gN G b B).1 j).1 9 0 ≤ 100
    split
    · rw [nCopyF_8, nCopyF_ne _ _ _ (by omega)]
      exact ⟨by omega, e.2⟩
    · exact e
  refine W_all h rfl (fun j hj f x hf => gTab_ne _ _ _ _ _ _ (by omega) (by omega)) (fun j hj => ?_) (fun j hj p => ?_) (fun j hj p hp => ?_) (fun j hj h8 => ?_) (iv_K_of h.2.2.2.2.2 (fun j hj => ⟨gTab_ne _ _ _ _ _ _ (by omega) (by omega), gTab_ne _ _ _ _ _ _ (by omega) (by omega), fun p => ⟨gTab_ne _ _ _ _ _ _ (by omega) (by omega), gTab_ne _ _ _ _ _ _ (by omega) (by omega), gTab_j _ _ _ _ _ _ (by omega) (by omega)⟩⟩) (fun r => ⟨rfl, Nat.le_refl _, fun p _ => ⟨rfl, rfl⟩⟩))
  · have b := (h.1 j hj).2.1
    have c := h.2.2.1.1 j hj
    obtain ⟨z8, z9⟩ := h8 j hj
    rw [gTab_ne _ _ _ _ _ _ (by omega) (by omega), gTab_ne _ _ _ _ _ _ (by omega) (by omega), gTab_ne _ _ _ _ _ (f := 10) _ (by omega) (by omega)]
    exact ⟨b.1, b.2.1, z9, z8, by omega⟩
  · rw [gTab_ne _ _ _ _ _ _ (by omega) (by omega), gTab_ne _ _ _ _ _ _ (by omega) (by omega)]; exact (h.1 j hj).2.2.2 p
  · rw [gTab_ne _ _ _ _ _ _ (by omega) (by omega)] at hp; exact h.2.2.2.1.1 j hj p hp
  · rw [gTab_ne _ _ _ _ _ _ (by omega) (by omega), gTab_ne _ _ _ _ _ _ (by omega) (by omega)]; exact h.2.2.2.1.2.2.2.2.2 j hj h8
end
