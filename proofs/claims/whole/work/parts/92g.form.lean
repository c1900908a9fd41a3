/-! quorums; a new ring keeps what holds -/
theorem cntf_mono {a b : Nat} (h : ∀ x, a.testBit x = true → b.testBit x = true) : ∀ k, cntf a k ≤ cntf b k := by
  intro k
  induction k with
  | zero => exact Nat.le_refl _
  | succ k ih =>
    unfold cntf
    by_cases c : a.testBit k = true
    · rw [if_pos c, if_pos (h k c)]; omega
    · rw [if_neg c]; omega
theorem quor_mono {s s' v : Nat} (h : ∀ x, s.testBit x = true → s'.testBit x = true) (q : quor s v = true) : quor s' v = true := by
  unfold quor at q ⊢
  have hm : cnt (v &&& s) ≤ cnt (v &&& s') := cntf_mono (fun x hx => by
    rw [Nat.testBit_and, Bool.and_eq_true] at hx ⊢
    exact ⟨hx.1, h x hx.2⟩) 8
  rw [Bool.or_eq_true, Bool.and_eq_true, decide_eq_true_iff, decide_eq_true_iff] at q ⊢
  rcases q with q | ⟨q1, q2⟩
  · exact Or.inl (by omega)
  · by_cases e : cnt v < 2 * cnt (v &&& s')
    · exact Or.inl e
    · exact Or.inr ⟨by omega, h _ q2⟩
theorem cntf_dis {v a b : Nat} (h : ∀ x, v.testBit x = true → a.testBit x = true → b.testBit x = true → False) : ∀ k, cntf (v &&& a) k + cntf (v &&& b) k ≤ cntf v k := by
  intro k
  induction k with
  | zero => exact Nat.le_refl _
  | succ k ih =>
    unfold cntf
    rw [Nat.testBit_and, Nat.testBit_and]
    by_cases cv : v.testBit k = true
    · by_cases ca : a.testBit k = true
      · by_cases cb : b.testBit k = true
        · exact (h k cv ca cb).elim
        · rw [if_pos (by simp [cv, ca]), if_neg (by simp [cb]), if_pos cv]; omega
      · rw [if_neg (by simp [ca])]
        by_cases cb : b.testBit k = true
        · rw [if_pos (by simp [cv, cb]), if_pos cv]; omega
        · rw [if_neg (by simp [cb])]; omega
    · rw [if_neg (by simp [cv]), if_neg (by simp [cv])]; omega
theorem quor_meet {s s' v : Nat} (hv : v < 256) (h0 : v ≠ 0) (q : quor s v = true) (q' : quor s' v = true) : ∃ x, v.testBit x = true ∧ s.testBit x = true ∧ s'.testBit x = true := by
  refine Classical.byContradiction (fun hno => ?_)
  have hd := cntf_dis (v := v) (a := s) (b := s') (fun x a b c => hno ⟨x, a, b, c⟩) 8
  unfold quor at q q'
  rw [Bool.or_eq_true, Bool.and_eq_true, decide_eq_true_iff, decide_eq_true_iff] at q q'
  unfold cnt at q q'
  have hl : ls v < 8 := ls_lt (n := 8) hv (by omega) h0
  rcases q with q | ⟨q1, q2⟩
  · rcases q' with q' | ⟨q1', q2'⟩ <;> omega
  · rcases q' with q' | ⟨q1', q2'⟩
    · omega
    · exact hno ⟨ls v, ls_bit hl, q2, q2'⟩
section
variable {n : Nat} {G : gT} {t l : Nat}
/-- who has a quorum of its greatest vote has the greatest vote of all -/
theorem vote_top {s b : Nat} (h : gW n G t l) (hn : n ≤ 8) (hb : b < n) (hmax : ∀ j, j < n → s.testBit j = true → (G.1 j).1 4 0 ≤ (G.1 b).1 4 0) (hq : quor s ((G.1 b).1 5 0) = true) : ∀ m, m < n → (G.1 m).1 4 0 ≤ (G.1 b).1 4 0 := fun m hm => by
  refine Nat.le_of_not_lt (fun hlt => ?_)
  have hV := h.2.2.2.2.1
  have h5 := (h.1 b hb).1.2.2.2
  have q2 := hV.2.2.2.2.2.2.2 b m hb hm hlt
  obtain ⟨x, -, a, c⟩ := quor_meet (Nat.lt_of_lt_of_le h5.1 (Nat.pow_le_pow_right (by omega) hn)) h5.2 hq q2
  rw [mk_bit, Bool.and_eq_true, decide_eq_true_iff, decide_eq_true_iff] at c
  have := hmax x c.1 a
  omega
/-- a joiner's record -/
theorem nJoin_f (N R : nT) (r : Nat) (p : Bool) : (nJoin (nLeave N) R r p).1 2 0 = r ∧ (nJoin (nLeave N) R r p).1 3 0 = R.1 0 0 ∧ (nJoin (nLeave N) R r p).1 4 0 = (if p = true then R.1 0 0 else N.1 4 0) ∧ (nJoin (nLeave N) R r p).1 5 0 = (if p = true then R.1 1 0 else N.1 5 0) ∧ (nJoin (nLeave N) R r p).1 6 0 = 0 ∧ (nJoin (nLeave N) R r p).1 7 0 = 0 ∧ (nJoin (nLeave N) R r p).1 9 0 = (if p = true then 0 else N.1 9 0) ∧ (nJoin (nLeave N) R r p).1 10 0 = N.1 10 0 + 1 ∧ (∀ x, (nJoin (nLeave N) R r p).1 14 x = if p = true ∧ x < 101 then 0 else N.1 14 x) ∧ (∀ x, (nJoin (nLeave N) R r p).1 16 x = 0) ∧ (∀ f x, f < 2 ∨ f = 8 ∨ f = 11 ∨ f = 12 ∨ f = 13 ∨ f = 15 → (nJoin (nLeave N) R r p).1 f x = N.1 f x) ∧ ∀ x, (nJoin (nLeave N) R r p).2 14 x = N.2 14 x := by
  cases p
  · have e : nJoin (nLeave N) R r false = nTell (nsI (nsI (nLeave N) 2 0 r) 3 0 (R.1 0 0)) (lN 3) (lN (R.1 1 0)) (lN 0) (lN 0) 0 (lN (R.1 0 0)) := rfl
    rw [e]
    refine ⟨?_, ?_, ?_, ?_, ?_, ?_, ?_, ?_, fun x => ?_, fun x => ?_, fun f x hf => ?_, fun x => ?_⟩
    · rw [nTell_ne _ _ _ _ _ _ _ _ (by omega), n1_ne _ _ _ _ (by omega), n1_eq]
    · rw [nTell_ne _ _ _ _ _ _ _ _ (by omega), n1_eq]
    · rw [nTell_ne _ _ _ _ _ _ _ _ (by omega), n1_ne _ _ _ _ (by omega), n1_ne _ _ _ _ (by omega)]; rfl
    · rw [nTell_ne _ _ _ _ _ _ _ _ (by omega), n1_ne _ _ _ _ (by omega), n1_ne _ _ _ _ (by omega)]; rfl
    · rw [nTell_ne _ _ _ _ _ _ _ _ (by omega), n1_ne _ _ _ _ (by omega), n1_ne _ _ _ _ (by omega)]; rfl
    · rw [nTell_ne _ _ _ _ _ _ _ _ (by omega), n1_ne _ _ _ _ (by omega), n1_ne _ _ _ _ (by omega)]; rfl
    · rw [nTell_ne _ _ _ _ _ _ _ _ (by omega), n1_ne _ _ _ _ (by omega), n1_ne _ _ _ _ (by omega)]; rfl
    · rw [nTell_10, n1_ne _ _ _ _ (by omega), n1_ne _ _ _ _ (by omega)]; rfl
    · rw [nTell_ne _ _ _ _ _ _ _ _ (by omega), n1_ne _ _ _ _ (by omega), n1_ne _ _ _ _ (by omega), if_neg (fun z => absurd z.1 (by decide)), nLeave_ne _ _ (by omega) (by omega) (by omega) (by omega)]
    · rw [nTell_ne _ _ _ _ _ _ _ _ (by omega), n1_ne _ _ _ _ (by omega), n1_ne _ _ _ _ (by omega)]; rfl
    · rw [nTell_ne _ _ _ _ _ _ _ _ (by omega), n1_ne _ _ _ _ (by omega), n1_ne _ _ _ _ (by omega), nLeave_ne _ _ (by omega) (by omega) (by omega) (by omega)]
    · rw [nTell_j _ _ _ _ _ _ _ _ (by omega)]; rfl
  · have e : nJoin (nLeave N) R r true = nTell (nForget (nsI (nsI (nsI (nsI (nLeave N) 2 0 r) 3 0 (R.1 0 0)) 4 0 (R.1 0 0)) 5 0 (R.1 1 0)) 101) (lN 3) (lN (R.1 1 0)) (lN 0) (lN 0) 0 (lN (R.1 0 0)) := rfl
    rw [e]
    refine ⟨?_, ?_, ?_, ?_, ?_, ?_, ?_, ?_, fun x => ?_, fun x => ?_, fun f x hf => ?_, fun x => ?_⟩
    · rw [nTell_ne _ _ _ _ _ _ _ _ (by omega), nForget_ne _ _ _ (by omega) (by omega), n1_ne _ _ _ _ (by omega), n1_ne _ _ _ _ (by omega), n1_ne _ _ _ _ (by omega), n1_eq]
    · rw [nTell_ne _ _ _ _ _ _ _ _ (by omega), nForget_ne _ _ _ (by omega) (by omega), n1_ne _ _ _ _ (by omega), n1_ne _ _ _ _ (by omega), n1_eq]
    · rw [nTell_ne _ _ _ _ _ _ _ _ (by omega), nForget_ne _ _ _ (by omega) (by omega), n1_ne _ _ _ _ (by omega), n1_eq, if_pos rfl]
    · rw [nTell_ne _ _ _ _ _ _ _ _ (by omega), nForget_ne _ _ _ (by omega) (by omega), n1_eq, if_pos rfl]
    · rw [nTell_ne _ _ _ _ _ _ _ _ (by omega), nForget_ne _ _ _ (by omega) (by omega), n1_ne _ _ _ _ (by omega), n1_ne _ _ _ _ (by omega), n1_ne _ _ _ _ (by omega), n1_ne _ _ _ _ (by omega)]; rfl
    · rw [nTell_ne _ _ _ _ _ _ _ _ (by omega), nForget_ne _ _ _ (by omega) (by omega), n1_ne _ _ _ _ (by omega), n1_ne _ _ _ _ (by omega), n1_ne _ _ _ _ (by omega), n1_ne _ _ _ _ (by omega)]; rfl
    · rw [nTell_ne _ _ _ _ _ _ _ _ (by omega)]; rfl
    · rw [nTell_10, nForget_ne _ _ _ (by omega) (by omega), n1_ne _ _ _ _ (by omega), n1_ne _ _ _ _ (by omega), n1_ne _ _ _ _ (by omega), n1_ne _ _ _ _ (by omega)]; rfl
    · rw [nTell_ne _ _ _ _ _ _ _ _ (by omega)]
      show (if 14 = 14 ∧ x < 101 then 0 else if 14 = 9 ∧ x = 0 then 0 else (nsI (nsI (nsI (nsI (nLeave N) 2 0 r) 3 0 (R.1 0 0)) 4 0 (R.1 0 0)) 5 0 (R.1 1 0)).1 14 x) = _
      by_cases c : x < 101
      · rw [if_pos ⟨rfl, c⟩, if_pos ⟨rfl, c⟩]
      · rw [if_neg (fun z => c z.2), if_neg (fun z => by omega), if_neg (fun z => c z.2), n1_ne _ _ _ _ (by omega), n1_ne _ _ _ _ (by omega), n1_ne _ _ _ _ (by omega), n1_ne _ _ _ _ (by omega)]; rfl
    · rw [nTell_ne _ _ _ _ _ _ _ _ (by omega), nForget_ne _ _ _ (by omega) (by omega), n1_ne _ _ _ _ (by omega), n1_ne _ _ _ _ (by omega), n1_ne _ _ _ _ (by omega), n1_ne _ _ _ _ (by omega)]; rfl
    · rw [nTell_ne _ _ _ _ _ _ _ _ (by omega), nForget_ne _ _ _ (by omega) (by omega), n1_ne _ _ _ _ (by omega), n1_ne _ _ _ _ (by omega), n1_ne _ _ _ _ (by omega), n1_ne _ _ _ _ (by omega), nLeave_ne _ _ (by omega) (by omega) (by omega) (by omega)]
    · rw [nTell_j _ _ _ _ _ _ _ _ (by omega)]; rfl
theorem W_form {s r b : Nat} {p : Bool} (h : gW n G t l) (hn : n ≤ 8) (hs : s < 2 ^ n) (hr : r < n) (hb : b < n) (hbs : s.testBit b = true) (hup : ∀ j, j < n → s.testBit j = true → (G.1 j).1 0 0 ≠ 0) (hno : ∀ j, j < n → s.testBit j = false → (G.1 j).1 2 0 ≠ r) (hmax : ∀ j, j < n → s.testBit j = true → (G.1 j).1 4 0 ≤ (G.1 b).1 4 0) (hp : p = true → quor s ((G.1 b).1 5 0) = true) : gW n (gForm G n s r p) (t + 1) (l + 1) := by
  have htop : p = true → ∀ m, m < n → (G.1 m).1 4 0 ≤ (G.1 b).1 4 0 := fun z => vote_top h hn hb hmax (hp z)
  obtain ⟨hnd, hrg, ht, ⟨s1, s2, s3, s4, s5, s6⟩, ⟨v1, v2, v3, v4, v5, v6, v7, v8⟩, ⟨k1, k2⟩⟩ := h
  have hs0 : s ≠ 0 := fun e => by rw [e, Nat.zero_testBit] at hbs; exact Bool.noConfusion hbs
  have hls : ls s < n := ls_lt hs hn hs0
  have hlsb : s.testBit (ls s) = true := ls_bit (by omega)
  have hmem : ∀ j, s.testBit j = true → j < n := fun j hj => Nat.lt_of_not_le (fun q => by rw [mask_hi hs q] at hj; exact Bool.noConfusion hj)
  generalize hk : hxf G s n + 1 = k
  have hhi : ∀ j, s.testBit j = true → (G.1 j).1 3 0 < k := fun j hj => by
    have := hxf_ge (G := G) (s := s) (hmem j hj) hj; omega
  have hkt : k ≤ t + 1 := by
    have : hxf G s n ≤ t := hxf_le (fun j hj _ => (ht.1 j hj).1)
    omega
  -- the new ring's record
  have R0 : (rNew G n s r).1 0 0 = k := hk ▸ rfl
  have R1 : (rNew G n s r).1 1 0 = s := rfl
  have R2 : (rNew G n s r).1 2 0 = ls s + 1 := rfl
  have R3 : (rNew G n s r).1 3 0 = 0 := rfl
  -- nodes inside and outside
  have hin : ∀ j, s.testBit j = true → (gForm G n s r p).1 j = nJoin (nLeave (G.1 j)) (rNew G n s r) r p := fun j hj => if_pos ⟨hmem j hj, hj⟩
  have hout : ∀ j, s.testBit j = false → (gForm G n s r p).1 j = G.1 j := fun j hj => if_neg (fun z => by rw [hj] at z; exact absurd z.2 (by decide))
  have hRr : (gForm G n s r p).2 r = rNew G n s r := if_pos rfl
  have hRn : ∀ r', r' ≠ r → (gForm G n s r p).2 r' = rLv (G.2 r') s n := fun r' e => if_neg e
  -- by case of j
  have cs : ∀ j, s.testBit j = true ∨ s.testBit j = false := fun j => by cases s.testBit j <;> simp
  have f2 : ∀ j, j < n → ((gForm G n s r p).1 j).1 2 0 = if s.testBit j = true then r else (G.1 j).1 2 0 := fun j hj => by
    rcases cs j with c | c
    · rw [hin j c, if_pos c]; exact (nJoin_f _ _ _ _).1
    · rw [hout j c, if_neg (by rw [c]; decide)]
  have f3 : ∀ j, j < n → ((gForm G n s r p).1 j).1 3 0 = if s.testBit j = true then k else (G.1 j).1 3 0 := fun j hj => by
    rcases cs j with c | c
    · rw [hin j c, if_pos c]; exact (nJoin_f _ _ _ _).2.1.trans R0
    · rw [hout j c, if_neg (by rw [c]; decide)]
  have f4 : ∀ j, j < n → ((gForm G n s r p).1 j).1 4 0 = if s.testBit j = true ∧ p = true then k else (G.1 j).1 4 0 := fun j hj => by
    rcases cs j with c | c
    · rw [hin j c, (nJoin_f _ _ _ _).2.2.1, R0]
      exact z_ifc2 ⟨fun z => ⟨c, z⟩, fun z => z.2⟩
    · rw [hout j c, if_neg (fun z => by rw [c] at z; exact absurd z.1 (by decide))]
  have f5 : ∀ j, j < n → ((gForm G n s r p).1 j).1 5 0 = if s.testBit j = true ∧ p = true then s else (G.1 j).1 5 0 := fun j hj => by
    rcases cs j with c | c
    · rw [hin j c, (nJoin_f _ _ _ _).2.2.2.1, R1]
      exact z_ifc2 ⟨fun z => ⟨c, z⟩, fun z => z.2⟩
    · rw [hout j c, if_neg (fun z => by rw [c] at z; exact absurd z.1 (by decide))]
  -- all old votes lie below the new number, where a vote is made anew or of those who join
  have hvlt : ∀ j, s.testBit j = true → (G.1 j).1 4 0 < k := fun j hj => by have := v3 j (hmem j hj); have := hhi j hj; omega
  have hvall : p = true → ∀ m, m < n → (G.1 m).1 4 0 < k := fun z m hm => by have := htop z m hm; have := hvlt b hbs; omega
  -- what is kept afterwards was kept before, by one who does not vote anew
  have f14 : ∀ j, j < n → ∀ x, ((gForm G n s r p).1 j).1 14 x ≠ 0 → (G.1 j).1 14 x ≠ 0 ∧ ¬ (s.testBit j = true ∧ p = true) ∧ ((gForm G n s r p).1 j).1 14 x = (G.1 j).1 14 x ∧ ((gForm G n s r p).1 j).1 15 x = (G.1 j).1 15 x ∧ ((gForm G n s r p).1 j).2 14 x = (G.1 j).2 14 x := fun j hj x hx => by
    rcases cs j with c | c
    · rw [hin j c] at hx ⊢
      obtain ⟨-, -, -, -, -, -, -, -, a14, -, aff, aj⟩ := nJoin_f (G.1 j) (rNew G n s r) r p
      rw [a14] at hx
      by_cases z : p = true ∧ x < 101
      · rw [if_pos z] at hx; exact absurd rfl hx
      · rw [if_neg z] at hx
        have hx101 := (((hnd j hj).2.2.2 x).2 hx).2
        exact ⟨hx, fun y => z ⟨y.2, hx101⟩, by rw [a14, if_neg z], aff 15 x (by omega), aj x⟩
    · rw [hout j c] at hx ⊢
      exact ⟨hx, fun y => by rw [c] at y; exact absurd y.1 (by decide), rfl, rfl, rfl⟩
  have gr : ∀ r', r' ≠ r → ∀ f x, f ≠ 2 → ((gForm G n s r p).2 r').1 f x = (G.2 r').1 f x := fun r' e f x hf => by rw [hRn r' e, rLv_ne _ _ _ _ hf]
  refine ⟨fun j hj => ?_, fun r' => ?_, ⟨fun j hj => ?_, fun r' => ?_⟩, ⟨fun j hj x hx => ?_, fun r' x hx hq => ?_, fun r' m hm he => ?_, ?_, fun j hj hu => ?_, fun j hj h8 => ?_⟩, ⟨fun j hj h8 => ?_, fun j hj h8 => ?_, fun j hj => ?_, fun i j hi hj he => ?_, fun i j hi hj hi8 hj8 hiv hjv hij => ?_, fun j hj h8 m hm hmb => ?_, fun i j hi hj hi8 hj8 hij hnum m hmb => ?_, fun i j hi hj hij => ?_⟩, ⟨fun i j hi hj x hv hxi hxj => ?_, fun i j hi hj x h8 hv hij hx => ?_⟩⟩
  · -- a node's bounds
    have o := hnd j hj
    rcases cs j with c | c
    · rw [hin j c]
      obtain ⟨a2, a3, a4, a5, a6, a7, a9, a10, a14, a16, aff, aj⟩ := nJoin_f (G.1 j) (rNew G n s r) r p
      rw [a2, a5, a6, a7, a9, aff 0 0 (by omega), aff 1 0 (by omega), aff 11 0 (by omega), R1]
      refine ⟨⟨o.1.1, o.1.2.1, Or.inl hr, ?_, ?_⟩, ⟨by omega, by omega, ?_, o.2.1.2.2.2⟩, fun q hq => ?_, fun x => ?_⟩
      · split
        · exact hs
        · exact o.1.2.2.2.1
      · split
        · exact hs0
        · exact o.1.2.2.2.2
      · split
        · omega
        · exact o.2.1.2.2.1
      · rw [aff 12 q (by omega), aff 13 q (by omega)]; exact o.2.2.1 q hq
      · rw [a14, aff 15 x (by omega)]
        split
        · exact ⟨by omega, fun z => absurd rfl z⟩
        · exact o.2.2.2 x
    · rw [hout j c]; exact o
  · -- a ring's bounds
    have o := hrg r'
    by_cases e : r' = r
    · rw [e, hRr]
      have o := hrg r
      refine ⟨⟨hs, by rw [R2]; omega, by rw [R3]; omega⟩, fun x hx => ?_, fun j hj => ?_, fun x hx => ?_⟩
      · have : (rNew G n s r).1 4 x = 0 := by
          show (if 4 = 5 ∧ x < 8 then 0 else if 4 = 4 ∧ x < 101 then 0 else _) = 0
          rw [if_neg (fun z => by omega), if_pos ⟨rfl, hx⟩]
        rw [this]; omega
      · have : (rNew G n s r).1 5 j = 0 := by
          show (if 5 = 5 ∧ j < 8 then 0 else _) = 0
          rw [if_pos ⟨rfl, hj⟩]
        rw [this]; omega
      · have e6 : ∀ f, f = 6 ∨ f = 7 ∨ f = 8 → (rNew G n s r).1 f x = (G.2 r).1 f x := fun f hf => by
          show (if f = 5 ∧ x < 8 then 0 else if f = 4 ∧ x < 101 then 0 else (nsI (nsI (nsI (nsI (rLv (G.2 r) s n) 0 0 (hxf G s n + 1)) 1 0 s) 2 0 (ls s + 1)) 3 0 0).1 f x) = _
          rw [if_neg (fun z => by omega), if_neg (fun z => by omega), n1_ne _ _ _ _ (by omega), n1_ne _ _ _ _ (by omega), n1_ne _ _ _ _ (by omega), n1_ne _ _ _ _ (by omega), rLv_ne _ _ _ _ (by omega)]
        rw [e6 6 (by omega), e6 7 (by omega), e6 8 (by omega)]
        exact o.2.2.2 x hx
    · rw [hRn r' e]
      have g := fun f x hf => rLv_ne (G.2 r') s n (f := f) x hf
      have g2 := rLv_le (G.2 r') s n
      refine ⟨⟨by rw [g 1 0 (by omega)]; exact o.1.1, by omega, by rw [g 3 0 (by omega)]; exact o.1.2.2⟩, fun x hx => by rw [g 4 x (by omega)]; exact o.2.1 x hx, fun j hj => by rw [g 5 j (by omega)]; exact o.2.2.1 j hj, fun x hx => by rw [g 6 x (by omega), g 7 x (by omega), g 8 x (by omega)]; exact o.2.2.2 x hx⟩
  · -- bounds of t, l
    have o := ht.1 j hj
    rw [f3 j hj, f4 j hj]
    refine ⟨?_, ?_, ?_⟩
    · split <;> omega
    · split <;> omega
    · rcases cs j with c | c
      · rw [hin j c]
        obtain ⟨a2, a3, a4, a5, a6, a7, a9, a10, a14, a16, aff, aj⟩ := nJoin_f (G.1 j) (rNew G n s r) r p
        rw [aff 8 0 (by omega), a10]; omega
      · rw [hout j c]; omega
  · by_cases e : r' = r
    · rw [e, hRr, R0]; exact hkt
    · rw [gr r' e 0 0 (by omega)]; have := ht.2 r'; omega
  · rcases cs j with c | c
    · rw [hin j c] at hx
      obtain ⟨a2, a3, a4, a5, a6, a7, a9, a10, a14, a16, aff, aj⟩ := nJoin_f (G.1 j) (rNew G n s r) r p
      exact absurd (a16 x) hx
    · rw [hout j c] at hx ⊢
      rw [gr _ (hno j hj c) 3 0 (by omega)]
      exact s1 j hj x hx
  · by_cases e : r' = r
    · rw [e, hRr] at hq
      refine absurd ?_ hq
      show (if 4 = 5 ∧ x < 8 then 0 else if 4 = 4 ∧ x < 101 then 0 else _) = 0
      rw [if_neg (fun z => by omega), if_pos ⟨rfl, hx⟩]
    · rw [gr r' e 4 x (by omega)] at hq
      rw [gr r' e 3 0 (by omega)]
      exact s2 r' x hx hq
  · by_cases e : r' = r
    · rw [e, hRr, R2] at he
      have : m = ls s := by omega
      rw [f2 m hm, this, if_pos hlsb, e]
    · rw [hRn r' e] at he
      unfold rLv at he
      split at he
      · rw [n1_eq] at he; omega
      · rename_i z
        have hms : ¬ s.testBit m = true := fun y => z ⟨by omega, by omega, by rw [he, Nat.add_sub_cancel]; exact y⟩
        rw [f2 m hm, if_neg hms]
        exact s3 r' m hm he
  · have e8 : (8 : Nat) ≠ r := by omega
    refine ⟨?_, ?_, ?_⟩
    · rw [gr 8 e8 0 0 (by omega)]; exact s4.1
    · rw [gr 8 e8 1 0 (by omega)]; exact s4.2.1
    · rw [hRn 8 e8]; have := rLv_le (G.2 8) s n; have := s4.2.2; omega
  · rcases cs j with c | c
    · rw [hin j c] at hu
      obtain ⟨a2, a3, a4, a5, a6, a7, a9, a10, a14, a16, aff, aj⟩ := nJoin_f (G.1 j) (rNew G n s r) r p
      rw [aff 0 0 (by omega)] at hu
      exact absurd hu (hup j hj c)
    · rw [hout j c] at hu ⊢; exact s5 j hj hu
  · rcases cs j with c | c
    · rw [hin j c] at h8 ⊢
      obtain ⟨a2, a3, a4, a5, a6, a7, a9, a10, a14, a16, aff, aj⟩ := nJoin_f (G.1 j) (rNew G n s r) r p
      exact ⟨a6, a7⟩
    · rw [hout j c] at h8 ⊢; exact s6 j hj h8
  · -- members
    rw [f2 j hj] at h8 ⊢
    rcases cs j with c | c
    · rw [if_pos c, hRr, R1]; exact c
    · rw [if_neg (by rw [c]; decide)] at h8 ⊢
      rw [gr _ (hno j hj c) 1 0 (by omega)]; exact v1 j hj h8
  · rw [f2 j hj] at h8 ⊢
    rcases cs j with c | c
    · rw [if_pos c, hRr, R0]; omega
    · rw [if_neg (by rw [c]; decide)] at h8 ⊢
      rw [gr _ (hno j hj c) 0 0 (by omega)]; exact v2 j hj h8
  · -- votes lie below the highest
    rw [f3 j hj, f4 j hj]
    rcases cs j with c | c
    · rw [if_pos c]
      have := hvlt j c
      split <;> omega
    · rw [if_neg (fun z => by rw [c] at z; exact absurd z.1 (by decide)), if_neg (by rw [c]; decide)]; exact v3 j hj
  · -- equal votes, equal members
    rw [f4 i hi, f4 j hj] at he
    rw [f5 i hi, f5 j hj]
    by_cases ci : s.testBit i = true ∧ p = true
    · by_cases cj : s.testBit j = true ∧ p = true
      · rw [if_pos ci, if_pos cj]
      · rw [if_pos ci, if_neg cj] at he
        have := hvall ci.2 j hj; omega
    · by_cases cj : s.testBit j = true ∧ p = true
      · rw [if_neg ci, if_pos cj] at he
        have := hvall cj.2 i hi; omega
      · rw [if_neg ci, if_neg cj] at he ⊢
        exact v4 i j hi hj he
  · -- one primary ring of a vote
    have aux : ∀ u, u < n → s.testBit u = true → ((gForm G n s r p).1 u).1 4 0 = ((gForm G n s r p).2 (((gForm G n s r p).1 u).1 2 0)).1 0 0 → p = true := fun u hu c hv => by
      rw [f4 u hu, f2 u hu, if_pos (c := s.testBit u = true) c, hRr, R0] at hv
      by_cases z : p = true
      · exact z
      · rw [if_neg (fun y => z y.2)] at hv
        have := hvlt u c; omega
    rcases cs i with ci | ci
    · have hpt := aux i hi ci hiv
      rcases cs j with cj | cj
      · rw [f2 i hi, f2 j hj, if_pos ci, if_pos cj]
      · rw [f4 i hi, f4 j hj, if_pos ⟨ci, hpt⟩, if_neg (fun z => by rw [cj] at z; exact absurd z.1 (by decide))] at hij
        have := hvall hpt j hj; omega
    · rcases cs j with cj | cj
      · have hpt := aux j hj cj hjv
        rw [f4 i hi, f4 j hj, if_neg (fun z => by rw [ci] at z; exact absurd z.1 (by decide)), if_pos ⟨cj, hpt⟩] at hij
        have := hvall hpt i hi; omega
      · rw [hout i ci] at hi8 hiv hij ⊢
        rw [hout j cj] at hj8 hjv hij ⊢
        rw [gr _ (hno i hi ci) 0 0 (by omega)] at hiv
        rw [gr _ (hno j hj cj) 0 0 (by omega)] at hjv
        exact v5 i j hi hj hi8 hj8 hiv hjv hij
  · -- members' highest
    rw [f2 j hj] at h8 hmb ⊢
    rw [f3 m hm]
    rcases cs j with c | c
    · rw [if_pos (c := s.testBit j = true) c, hRr, R0]
      rw [if_pos (c := s.testBit j = true) c, hRr, R1] at hmb
      rw [if_pos hmb]
      exact Nat.le_refl _
    · rw [if_neg (c := s.testBit j = true) (by rw [c]; decide)] at h8 hmb ⊢
      rw [gr _ (hno j hj c) 1 0 (by omega)] at hmb
      rw [gr _ (hno j hj c) 0 0 (by omega)]
      have z := v6 j hj h8 m hm hmb
      rcases cs m with cm | cm
      · rw [if_pos cm]; have := hhi m cm; omega
      · rw [if_neg (by rw [cm]; decide)]; exact z
  · -- rings of one number have other members
    have aux : ∀ u v, u < n → v < n → s.testBit u = true → s.testBit v = false → (G.1 v).1 2 0 ≠ 8 → k = (G.2 ((G.1 v).1 2 0)).1 0 0 → s.testBit m = true → ((G.2 ((G.1 v).1 2 0)).1 1 0).testBit m = true → False := fun u v hu hv cu cv h8 hkk hm1 hm2 => by
      have := v6 v hv h8 m (hmem m hm1) hm2
      have := hhi m hm1
      omega
    rcases cs i with ci | ci
    · rcases cs j with cj | cj
      · rw [f2 i hi, f2 j hj, if_pos ci, if_pos cj] at hij; exact hij rfl
      · rw [f2 i hi, if_pos ci, hRr] at hnum hmb
        rw [hout j cj] at hj8 hnum hmb
        rw [gr _ (hno j hj cj) 0 0 (by omega), R0] at hnum
        rw [gr _ (hno j hj cj) 1 0 (by omega), R1] at hmb
        exact aux i j hi hj ci cj hj8 hnum hmb.1 hmb.2
    · rcases cs j with cj | cj
      · rw [f2 j hj, if_pos cj, hRr] at hnum hmb
        rw [hout i ci] at hi8 hnum hmb
        rw [gr _ (hno i hi ci) 0 0 (by omega), R0] at hnum
        rw [gr _ (hno i hi ci) 1 0 (by omega), R1] at hmb
        exact aux j i hj hi cj ci hi8 hnum.symm hmb.2 hmb.1
      · rw [hout i ci] at hi8 hij hnum hmb
        rw [hout j cj] at hj8 hij hnum hmb
        rw [gr _ (hno i hi ci) 0 0 (by omega), gr _ (hno j hj cj) 0 0 (by omega)] at hnum
        rw [gr _ (hno i hi ci) 1 0 (by omega), gr _ (hno j hj cj) 1 0 (by omega)] at hmb
        exact v7 i j hi hj hi8 hj8 hij hnum m hmb
  · -- older votes have been outvoted
    have e4 : ∀ m, m < n → (G.1 m).1 4 0 ≤ ((gForm G n s r p).1 m).1 4 0 := fun m hm => by
      rw [f4 m hm]
      split
      · rename_i z; have := hvlt m z.1; omega
      · exact Nat.le_refl _
    by_cases ci : s.testBit i = true ∧ p = true
    · rw [f4 i hi, f4 j hj, if_pos ci] at hij
      split at hij
      · omega
      · have := hvall ci.2 j hj; omega
    · have ei : ((gForm G n s r p).1 i).1 4 0 = (G.1 i).1 4 0 := by rw [f4 i hi, if_neg ci]
      rw [f5 i hi, if_neg ci]
      by_cases ho : ∃ m, m < n ∧ (G.1 i).1 4 0 < (G.1 m).1 4 0
      · obtain ⟨m, hm, hlt⟩ := ho
        refine quor_mono (fun x hx => ?_) (v8 i m hi hm hlt)
        rw [mk_bit, Bool.and_eq_true, decide_eq_true_iff, decide_eq_true_iff] at hx ⊢
        have := e4 x hx.1
        exact ⟨hx.1, by rw [ei]; omega⟩
      · have hall : ∀ m, m < n → (G.1 m).1 4 0 ≤ (G.1 i).1 4 0 := fun m hm => Nat.le_of_not_lt (fun z => ho ⟨m, hm, z⟩)
        -- then someone votes anew
        have hpt : p = true := by
          by_cases z : p = true
          · exact z
          · rw [f4 j hj, ei, if_neg (fun y => z y.2)] at hij
            have := hall j hj; omega
        have hbi : (G.1 b).1 4 0 = (G.1 i).1 4 0 := by have := hall b hb; have := htop hpt i hi; omega
        rw [← v4 b i hb hi hbi]
        refine quor_mono (fun x hx => ?_) (hp hpt)
        rw [mk_bit, Bool.and_eq_true, decide_eq_true_iff, decide_eq_true_iff]
        refine ⟨hmem x hx, ?_⟩
        rw [ei, f4 x (hmem x hx), if_pos ⟨hx, hpt⟩]
        exact hvall hpt i hi
  · -- what is kept with one vote
    obtain ⟨a1, a2, a3, a4, a5⟩ := f14 i hi x hxi
    obtain ⟨b1, b2, b3, b4, b5⟩ := f14 j hj x hxj
    rw [f4 i hi, f4 j hj, if_neg a2, if_neg b2] at hv
    rw [a4, a5, b4, b5]
    exact k1 i j hi hj x hv a1 b1
  · obtain ⟨a1, a2, a3, a4, a5⟩ := f14 i hi x hx
    rw [f4 i hi, if_neg a2] at hij
    rcases cs j with cj | cj
    · rw [f2 j hj, if_pos cj, hRr, R0, f4 j hj] at hv
      have hpt : p = true := by
        by_cases z : p = true
        · exact z
        · rw [if_neg (fun y => z y.2)] at hv
          have := hvlt j cj; omega
      rw [f4 j hj, if_pos ⟨cj, hpt⟩] at hij
      have := hvall hpt i hi; omega
    · rw [hout j cj] at h8 hv hij ⊢
      have hne := hno j hj cj
      rw [gr _ hne 0 0 (by omega)] at hv
      rw [gr _ hne 3 0 (by omega), gr _ hne 7 x (by omega), hRn _ hne, rLv_j, a4, a5]
      exact k2 i j hi hj x h8 hv hij a1
end
