/-! the reference sends what waits: nothing is shifted before the end -/
def nShiftK (N : nT) (m : Nat) : nT := (fun f j => if f = 11 ∧ j = 0 then N.1 11 0 - m else if f = 12 ∨ f = 13 then N.1 f (j + m) else N.1 f j, fun f j => if f = 12 then N.2 12 (j + m) else N.2 f j)
theorem nShiftK_0 (N : nT) : nShiftK N 0 = N := by
  refine Prod.ext (funext fun f => funext fun j => ?_) (funext fun f => funext fun j => ?_)
  · show (if f = 11 ∧ j = 0 then N.1 11 0 - 0 else if f = 12 ∨ f = 13 then N.1 f (j + 0) else N.1 f j) = _
    split
    · rename_i q; rw [q.1, q.2]; rfl
    · split <;> rfl
  · show (if f = 12 then N.2 12 (j + 0) else N.2 f j) = _
    split
    · rename_i q; rw [q]; rfl
    · rfl
theorem nShiftK_s (N : nT) (m : Nat) : nShift (nShiftK N m) = nShiftK N (m + 1) := by
  refine Prod.ext (funext fun f => funext fun j => ?_) (funext fun f => funext fun j => ?_)
  · show (if f = 11 ∧ j = 0 then (nShiftK N m).1 11 0 - 1 else if f = 12 ∨ f = 13 then (nShiftK N m).1 f (j + 1) else (nShiftK N m).1 f j) = if f = 11 ∧ j = 0 then N.1 11 0 - (m + 1) else if f = 12 ∨ f = 13 then N.1 f (j + (m + 1)) else N.1 f j
    split
    · show N.1 11 0 - m - 1 = _
      omega
    · rename_i q
      split
      · rename_i q2
        show (if f = 11 ∧ j + 1 = 0 then _ else if f = 12 ∨ f = 13 then N.1 f (j + 1 + m) else N.1 f (j + 1)) = _
        rw [if_neg (fun z => by omega), if_pos q2, show j + 1 + m = j + (m + 1) by omega]
      · rename_i q2
        show (if f = 11 ∧ j = 0 then _ else if f = 12 ∨ f = 13 then N.1 f (j + m) else N.1 f j) = _
        rw [if_neg q, if_neg q2]
  · show (if f = 12 then (nShiftK N m).2 12 (j + 1) else (nShiftK N m).2 f j) = if f = 12 then N.2 12 (j + (m + 1)) else N.2 f j
    split
    · show N.2 12 (j + 1 + m) = _
      rw [show j + 1 + m = j + (m + 1) by omega]
    · rename_i q
      show (if f = 12 then N.2 12 (j + m) else N.2 f j) = _
      rw [if_neg q]
theorem nShiftK_ne (N : nT) (m : Nat) {f : Nat} (j : Nat) (h1 : f ≠ 11) (h2 : f ≠ 12) (h3 : f ≠ 13) : (nShiftK N m).1 f j = N.1 f j := by
  show (if f = 11 ∧ j = 0 then N.1 11 0 - m else if f = 12 ∨ f = 13 then N.1 f (j + m) else N.1 f j) = _
  rw [if_neg (fun z => h1 z.1), if_neg (by omega)]
theorem nShiftK_p (N : nT) (m : Nat) : (nShiftK N m).1 12 0 = N.1 12 m ∧ (nShiftK N m).1 13 0 = N.1 13 m ∧ (nShiftK N m).2 12 0 = N.2 12 m := by
  refine ⟨?_, ?_, ?_⟩
  · show (if 12 = 11 ∧ 0 = 0 then N.1 11 0 - m else if 12 = 12 ∨ 12 = 13 then N.1 12 (0 + m) else N.1 12 0) = _
    rw [if_neg (fun z => by omega), if_pos (Or.inl rfl), Nat.zero_add]
  · show (if 13 = 11 ∧ 0 = 0 then N.1 11 0 - m else if 13 = 12 ∨ 13 = 13 then N.1 13 (0 + m) else N.1 13 0) = _
    rw [if_neg (fun z => by omega), if_pos (Or.inr rfl), Nat.zero_add]
  · show (if 12 = 12 then N.2 12 (0 + m) else N.2 12 0) = _
    rw [if_pos rfl, Nat.zero_add]
theorem nRecv_shift (N R : nT) (p m : Nat) : nRecv (nShiftK N m) R p = nShiftK (nRecv N R p) m := by
  have hp : prim (nShiftK N m) R = prim N R := prim_ne (nShiftK_ne _ _ _ (by omega) (by omega) (by omega))
  unfold nRecv
  rw [hp]
  split
  · refine Prod.ext (funext fun f => funext fun j => ?_) (funext fun f => funext fun j => ?_)
    · show (if f = 15 ∧ j = p then R.1 7 p else if f = 14 ∧ j = p then 1 else if f = 16 ∧ j = p then 1 else if f = 11 ∧ j = 0 then N.1 11 0 - m else if f = 12 ∨ f = 13 then N.1 f (j + m) else N.1 f j) = if f = 11 ∧ j = 0 then (nsJ (nsI (nsI (nsI N 16 p 1) 14 p 1) 15 p (R.1 7 p)) 14 p (R.2 6 p)).1 11 0 - m else if f = 12 ∨ f = 13 then (nsJ (nsI (nsI (nsI N 16 p 1) 14 p 1) 15 p (R.1 7 p)) 14 p (R.2 6 p)).1 f (j + m) else (nsJ (nsI (nsI (nsI N 16 p 1) 14 p 1) 15 p (R.1 7 p)) 14 p (R.2 6 p)).1 f j
      by_cases q : f = 11 ∧ j = 0
      · rw [if_neg (fun z => by omega), if_neg (fun z => by omega), if_neg (fun z => by omega), if_pos q, if_pos q, n1_sJ, n1_ne _ _ _ _ (by omega), n1_ne _ _ _ _ (by omega), n1_ne _ _ _ _ (by omega)]
      · rw [if_neg q, if_neg q]
        by_cases q2 : f = 12 ∨ f = 13
        · rw [if_neg (fun z => by omega), if_neg (fun z => by omega), if_neg (fun z => by omega), if_pos q2, if_pos q2, n1_sJ, n1_ne _ _ _ _ (by omega), n1_ne _ _ _ _ (by omega), n1_ne _ _ _ _ (by omega)]
        · rw [if_neg q2, if_neg q2]
          rfl
    · show (if f = 14 ∧ j = p then R.2 6 p else if f = 12 then N.2 12 (j + m) else N.2 f j) = if f = 12 then (nsJ (nsI (nsI (nsI N 16 p 1) 14 p 1) 15 p (R.1 7 p)) 14 p (R.2 6 p)).2 12 (j + m) else (nsJ (nsI (nsI (nsI N 16 p 1) 14 p 1) 15 p (R.1 7 p)) 14 p (R.2 6 p)).2 f j
      by_cases q : f = 12
      · rw [if_neg (fun z => by omega), if_pos q, if_pos q, n2_ne _ _ _ _ (by omega)]
        rfl
      · rw [if_neg q, if_neg q]
        rfl
  · refine Prod.ext (funext fun f => funext fun j => ?_) rfl
    show (if f = 16 ∧ j = p then 1 else if f = 11 ∧ j = 0 then N.1 11 0 - m else if f = 12 ∨ f = 13 then N.1 f (j + m) else N.1 f j) = if f = 11 ∧ j = 0 then (nsI N 16 p 1).1 11 0 - m else if f = 12 ∨ f = 13 then (nsI N 16 p 1).1 f (j + m) else (nsI N 16 p 1).1 f j
    by_cases q : f = 11 ∧ j = 0
    · rw [if_neg (fun z => by omega), if_pos q, if_pos q, n1_ne _ _ _ _ (by omega)]
    · rw [if_neg q, if_neg q]
      by_cases q2 : f = 12 ∨ f = 13
      · rw [if_neg (fun z => by omega), if_pos q2, if_pos q2, n1_ne _ _ _ _ (by omega)]
      · rw [if_neg q2, if_neg q2]
        rfl
def gSh (i m : Nat) (G : gT) : gT := gN G i (nShiftK (G.1 i) m)
def gPutM (n i r : Nat) (P : Nat → Bool) (m : Nat) (G : gT) : gT := gGive (gR G r (rPut (G.2 r) i ((G.1 i).1 12 m) ((G.1 i).2 12 m) ((G.1 i).1 13 m))) (fun j => P j || decide (j = i)) r ((G.2 r).1 3 0 + 1) n
theorem gSh_0 (i : Nat) (G : gT) : gSh i 0 G = G := by
  unfold gSh
  rw [nShiftK_0, gN_self]
theorem gPutM_sh (n i r : Nat) (P : Nat → Bool) (m : Nat) (G : gT) : gPut1 n i r P (gSh i m G) = gSh i (m + 1) (gPutM n i r P m G) := by
  have a12 : ((gSh i m G).1 i).1 12 0 = (G.1 i).1 12 m := by
    show ((gN G i (nShiftK (G.1 i) m)).1 i).1 12 0 = _
    rw [g1_Ns, (nShiftK_p _ _).1]
  have a13 : ((gSh i m G).1 i).1 13 0 = (G.1 i).1 13 m := by
    show ((gN G i (nShiftK (G.1 i) m)).1 i).1 13 0 = _
    rw [g1_Ns, (nShiftK_p _ _).2.1]
  have aj : ((gSh i m G).1 i).2 12 0 = (G.1 i).2 12 m := by
    show ((gN G i (nShiftK (G.1 i) m)).1 i).2 12 0 = _
    rw [g1_Ns, (nShiftK_p _ _).2.2]
  have eR : (gSh i m G).2 = G.2 := rfl
  have ei : (gSh i m G).1 i = nShiftK (G.1 i) m := g1_Ns _ _ _
  unfold gPut1 gPutM
  rw [a12, a13, aj, eR, ei, nShiftK_s]
  generalize rPut (G.2 r) i ((G.1 i).1 12 m) ((G.1 i).2 12 m) ((G.1 i).1 13 m) = R
  refine Prod.ext (funext fun j => ?_) rfl
  show (if j < n ∧ (P j || decide (j = i)) = true then nRecv ((gN (gSh i m G) i (nShiftK (G.1 i) (m + 1))).1 j) ((gR G r R).2 r) ((G.2 r).1 3 0 + 1) else (gN (gSh i m G) i (nShiftK (G.1 i) (m + 1))).1 j) = if j = i then nShiftK (if i < n ∧ (P i || decide (i = i)) = true then nRecv (G.1 i) ((gR G r R).2 r) ((G.2 r).1 3 0 + 1) else G.1 i) (m + 1) else if j < n ∧ (P j || decide (j = i)) = true then nRecv (G.1 j) ((gR G r R).2 r) ((G.2 r).1 3 0 + 1) else G.1 j
  unfold gSh
  rw [gN_gN, g1_N]
  by_cases e : j = i
  · subst e
    rw [if_pos rfl, if_pos rfl]
    by_cases c : j < n ∧ (P j || decide (j = j)) = true
    · rw [if_pos c, if_pos c, nRecv_shift]
    · rw [if_neg c, if_neg c]
  · rw [if_neg e, if_neg e]
section
variable {Z : zZ} {S0 S : zS} {ar : Nat → Nat} {n w : Nat} {sg : Nat → Nat} {u u' : Nat → Nat → Bool} {G : gT} {i : Nat} {N : nT} {A : Nat → Nat → Int32} {B : Nat → Nat → Int64} {r t l : Nat}
theorem W_sh {m : Nat} (h : gW n G t l) (hi : i < n) : gW n (gSh i m G) t l := by
  have o := h.1 i hi
  have e11 : (nShiftK (G.1 i) m).1 11 0 = (G.1 i).1 11 0 - m := rfl
  refine W_flag h hi (fun f x a b c d e => nShiftK_ne _ _ _ c d e) (fun x => rfl) ?_ ?_ (by omega) (fun q hq => ?_) (fun hu => ?_)
  · rw [nShiftK_ne _ _ _ (by omega) (by omega) (by omega)]; exact o.1.1
  · rw [nShiftK_ne _ _ _ (by omega) (by omega) (by omega)]; exact o.1.2.1
  · rw [e11] at hq
    exact o.2.2.1 (q + m) (by omega)
  · rw [nShiftK_ne _ _ _ (by omega) (by omega) (by omega)] at hu; exact h.2.2.2.1.2.2.2.2.1 i hi hu
theorem W_putM {m : Nat} (h : gW n G t l) (hi : i < n) (hi8 : i < 8) (hir : (G.1 i).1 2 0 = r) (hr8 : r ≠ 8) (hl : (G.2 r).1 3 0 < 100) (hm : m < (G.1 i).1 11 0) : gW n (gR G r (rPut (G.2 r) i ((G.1 i).1 12 m) ((G.1 i).2 12 m) ((G.1 i).1 13 m))) t l := by
  have h1 := W_sh (m := m) h hi
  have ei : (gSh i m G).1 i = nShiftK (G.1 i) m := g1_Ns _ _ _
  have h2 := W_put h1 hi hi8 (r := r) (by rw [ei, nShiftK_ne _ _ _ (by omega) (by omega) (by omega)]; exact hir) hr8 hl (by rw [ei]; show (G.1 i).1 11 0 - m ≠ 0; omega)
  have o := h.1 i hi
  have h3 := W_flag (N := G.1 i) h2 hi (fun f x a b c d e => ?_) (fun x => ?_) o.1.1 o.1.2.1 o.2.1.2.2.2 o.2.2.1 (fun hu => ?_)
  · rw [gN_gR, gN_gN] at h3
    have eG : gN (gSh i m G) i (G.1 i) = G := by
      unfold gSh
      rw [gN_gN, gN_self]
    rw [eG, ei] at h3
    rw [(nShiftK_p _ _).1, (nShiftK_p _ _).2.1, (nShiftK_p _ _).2.2] at h3
    exact h3
  · rw [g1_R, g1_Ns, nShift_ne _ _ c d e, ei, nShiftK_ne _ _ _ c d e]
  · rw [g1_R, g1_Ns, ei]; rfl
  · rw [g1_R, g1_Ns, nShift_ne _ _ (by omega) (by omega) (by omega), ei, nShiftK_ne _ _ _ (by omega) (by omega) (by omega)]
    exact h.2.2.2.1.2.2.2.2.1 i hi hu
/-- the next place of a ring in use -/
theorem ms_put (H : zMV Z S0 ar n w sg u S G) (hin : r ≠ 8 ∧ ∃ i, i < n ∧ (G.1 i).1 2 0 = r) (hl : ∀ r, (G.2 r).1 3 0 ≤ 100) (hl2 : (G.2 r).1 3 0 < 100) (hz : ∀ j, j < n → (G.1 j).1 2 0 = r → (G.1 j).1 16 ((G.2 r).1 3 0 + 1) = 0) (hz4 : (G.2 r).1 4 ((G.2 r).1 3 0 + 1) = 0) (k key : Nat) (v : Int64) (safe : Nat) : zMV Z S0 ar n w sg u (zsI (zsI (zsI (zsJ (zsI (zsI (zsI S (ar 28) (sg r) (nI ((G.2 r).1 3 0 + 1))) (ar 29) (101 * sg r + ((G.2 r).1 3 0 + 1)) (nI k)) (ar 30) (101 * sg r + ((G.2 r).1 3 0 + 1)) (nI key)) (ar 31) (101 * sg r + ((G.2 r).1 3 0 + 1)) v) (ar 32) (101 * sg r + ((G.2 r).1 3 0 + 1)) (nI safe)) (ar 33) (101 * sg r + ((G.2 r).1 3 0 + 1)) 0) (ar 34) (101 * sg r + ((G.2 r).1 3 0 + 1)) 0) (gR G r (rPut (G.2 r) k key v safe)) := by
  have hinj := H.1.1.2.2
  have hn := (mV_n H).2.2.2.1
  generalize hL : (G.2 r).1 3 0 = L at *
  generalize hc : 101 * sg r + (L + 1) = c
  refine zMV_I (zMb_I (zMb_I (zMb_J (zMb_I (zMb_I (zMb_I H.1 (by omega) _ _) (by omega) _ _) (by omega) _ _) (by omega) _ _) (by omega) _ _) (by omega) _ _) (by omega) ?_
  rw [mI_I hinj, mI_I hinj, mI_J, mI_I hinj, mI_I hinj, mI_I hinj, mJ_I, mJ_I, mJ_J hinj, mJ_I, mJ_I, mJ_I]
  generalize hA : mI S ar = A
  generalize hB : mJ S ar = B
  have HC := H.2
  rw [hA, hB] at HC
  generalize hA' : zu (zu (zu (zu (zu (zu A 28 (sg r) (nI (L + 1))) 29 c (nI k)) 30 c (nI key)) 32 c (nI safe)) 33 c 0) 34 c 0 = A'
  generalize hB' : zu B 31 c v = B'
  have e0 : ∀ x, x ≠ 28 → x ≠ 29 → x ≠ 30 → x ≠ 32 → x ≠ 33 → x ≠ 34 → A' x = A x := fun x a b c d e f => by
    rw [← hA', zu_ne _ _ _ _ _ f, zu_ne _ _ _ _ _ e, zu_ne _ _ _ _ _ d, zu_ne _ _ _ _ _ c, zu_ne _ _ _ _ _ b, zu_ne _ _ _ _ _ a]
  have eB : ∀ x, x ≠ 31 → B' x = B x := fun x a => by rw [← hB', zu_ne _ _ _ _ _ a]
  have e28 : ∀ y, A' 28 y = if y = sg r then nI (L + 1) else A 28 y := fun y => by
    rw [← hA', zu_ne _ _ _ _ _ (by omega), zu_ne _ _ _ _ _ (by omega), zu_ne _ _ _ _ _ (by omega), zu_ne _ _ _ _ _ (by omega), zu_ne _ _ _ _ _ (by omega), zu_at]
  have e29 : ∀ y, A' 29 y = if y = c then nI k else A 29 y := fun y => by
    rw [← hA', zu_ne _ _ _ _ _ (by omega), zu_ne _ _ _ _ _ (by omega), zu_ne _ _ _ _ _ (by omega), zu_ne _ _ _ _ _ (by omega), zu_at, zu_ne _ _ _ _ _ (by omega)]
  have e30 : ∀ y, A' 30 y = if y = c then nI key else A 30 y := fun y => by
    rw [← hA', zu_ne _ _ _ _ _ (by omega), zu_ne _ _ _ _ _ (by omega), zu_ne _ _ _ _ _ (by omega), zu_at, zu_ne _ _ _ _ _ (by omega), zu_ne _ _ _ _ _ (by omega)]
  have e32 : ∀ y, A' 32 y = if y = c then nI safe else A 32 y := fun y => by
    rw [← hA', zu_ne _ _ _ _ _ (by omega), zu_ne _ _ _ _ _ (by omega), zu_at, zu_ne _ _ _ _ _ (by omega), zu_ne _ _ _ _ _ (by omega), zu_ne _ _ _ _ _ (by omega)]
  have e33 : ∀ y, A' 33 y = if y = c then 0 else A 33 y := fun y => by
    rw [← hA', zu_ne _ _ _ _ _ (by omega), zu_at, zu_ne _ _ _ _ _ (by omega), zu_ne _ _ _ _ _ (by omega), zu_ne _ _ _ _ _ (by omega), zu_ne _ _ _ _ _ (by omega)]
  have e34 : ∀ y, A' 34 y = if y = c then 0 else A 34 y := fun y => by
    rw [← hA', zu_at, zu_ne _ _ _ _ _ (by omega), zu_ne _ _ _ _ _ (by omega), zu_ne _ _ _ _ _ (by omega), zu_ne _ _ _ _ _ (by omega), zu_ne _ _ _ _ _ (by omega)]
  have e31 : ∀ y, B' 31 y = if y = c then v else B 31 y := fun y => by rw [← hB', zu_at]
  obtain ⟨c1, c2, c3⟩ := HC
  have hls : ∀ r', (G.2 r').1 3 0 ≤ 100 := hl
  have en : ∀ f x, f ≠ 3 → f ≠ 6 → f ≠ 7 → f ≠ 8 → (rPut (G.2 r) k key v safe).1 f x = (G.2 r).1 f x := fun f x a b c d => rPut_ne _ _ _ _ _ _ a b c d
  have e3 : (rPut (G.2 r) k key v safe).1 3 0 = L + 1 := by rw [rPut_3, hL]
  obtain ⟨ii, hii, hiir⟩ := hin.2
  -- slots of other rings
  have hso : ∀ j, j < n → (G.1 j).1 2 0 ≠ 8 → (G.1 j).1 2 0 ≠ r → sg ((G.1 j).1 2 0) ≠ sg r := fun j hj h8 hne es => hne ((c3 j ii hj hii h8 (by rw [hiir]; exact hin.1) (by rw [hiir]; exact es)).trans hiir)
  refine ⟨by rw [e0 0 (by omega) (by omega) (by omega) (by omega) (by omega) (by omega)]; exact c1, fun j hj => ⟨?_, ?_, ?_, fun h8 => ?_⟩, c3⟩
  · obtain ⟨a1, a2, a3, a4⟩ := (c2 j hj).1
    rw [g1_R]
    refine ⟨fun f hf hf2 hf6 hf7 => ?_, ?_, fun x hx h12 => ?_, fun q hq => ?_⟩
    · have := mA_rg f hf hf2
      rw [e0 _ (by omega) (by omega) (by omega) (by omega) (by omega) (by omega)]; exact a1 f hf hf2 hf6 hf7
    · rw [eB 9 (by omega), eB 7 (by omega), eB 23 (by omega)]; exact a2
    · rw [e0 13 (by omega) (by omega) (by omega) (by omega) (by omega) (by omega), eB 14 (by omega), e0 15 (by omega) (by omega) (by omega) (by omega) (by omega) (by omega)]; exact a3 x hx h12
    · rw [e0 19 (by omega) (by omega) (by omega) (by omega) (by omega) (by omega), e0 20 (by omega) (by omega) (by omega) (by omega) (by omega) (by omega), eB 21 (by omega)]; exact a4 q hq
  · unfold mNr
    rw [e0 5 (by omega) (by omega) (by omega) (by omega) (by omega) (by omega), g1_R]; exact (c2 j hj).2.1
  · unfold mNh
    rw [g1_R]
    intro h8 q q1 q2
    have z := (c2 j hj).2.2.1 h8 q q1
    rw [e33]
    by_cases e : (G.1 j).1 2 0 = r
    · rw [e, g2_Rs, e3] at q2
      rw [e] at z ⊢
      by_cases eq : q = L + 1
      · rw [if_pos (by omega), b_0, eq, hz j hj e]
        rfl
      · rw [if_neg (by omega)]
        exact z (by omega)
    · rw [g2_Rn _ _ e] at q2
      have := hso j hj h8 e
      have := hls ((G.1 j).1 2 0)
      rw [if_neg (by omega)]
      exact z q2
  · rw [g1_R] at h8 ⊢
    have z := (c2 j hj).2.2.2 h8
    by_cases e : (G.1 j).1 2 0 = r
    · rw [e] at z ⊢
      obtain ⟨a1, a2, a3, a4, a5, a6, a7⟩ := z
      unfold mRg
      rw [g2_Rs]
      refine ⟨a1, ?_, ?_, ?_, ?_, fun q q1 q2 => ?_, fun j hj hu => ?_⟩
      · rw [e0 24 (by omega) (by omega) (by omega) (by omega) (by omega) (by omega), en 0 0 (by omega) (by omega) (by omega) (by omega)]; exact a2
      · rw [e0 25 (by omega) (by omega) (by omega) (by omega) (by omega) (by omega), en 1 0 (by omega) (by omega) (by omega) (by omega)]; exact a3
      · rw [e28, if_pos rfl, e3]
      · rw [e0 26 (by omega) (by omega) (by omega) (by omega) (by omega) (by omega), e0 27 (by omega) (by omega) (by omega) (by omega) (by omega) (by omega), en 1 0 (by omega) (by omega) (by omega) (by omega), en 2 0 (by omega) (by omega) (by omega) (by omega)]; exact a5
      · rw [e3] at q2
        obtain ⟨p1, p2, p3, p4⟩ := rPut_p (G.2 r) k key v safe q
        rw [hL] at p1 p2 p3 p4
        rw [p1, p2, p3, p4, e29, e30, e31, e32, e34, en 4 q (by omega) (by omega) (by omega) (by omega)]
        by_cases eq : q = L + 1
        · have ec : 101 * sg r + q = c := by omega
          simp only [if_pos ec, if_pos eq]
          rw [eq, hz4]
          exact ⟨trivial, trivial, trivial, trivial, rfl⟩
        · have ec : ¬ 101 * sg r + q = c := by omega
          simp only [if_neg ec, if_neg eq]
          exact a6 q q1 (by omega)
      · rw [e0 35 (by omega) (by omega) (by omega) (by omega) (by omega) (by omega), en 5 j (by omega) (by omega) (by omega) (by omega)]; exact a7 j hj hu
    · have hs := hso j hj h8 e
      obtain ⟨a1, a2, a3, a4, a5, a6, a7⟩ := z
      unfold mRg
      rw [g2_Rn _ _ e]
      refine ⟨a1, ?_, ?_, ?_, ?_, fun q q1 q2 => ?_, fun j hj hu => ?_⟩
      · rw [e0 24 (by omega) (by omega) (by omega) (by omega) (by omega) (by omega)]; exact a2
      · rw [e0 25 (by omega) (by omega) (by omega) (by omega) (by omega) (by omega)]; exact a3
      · rw [e28, if_neg hs]; exact a4
      · rw [e0 26 (by omega) (by omega) (by omega) (by omega) (by omega) (by omega), e0 27 (by omega) (by omega) (by omega) (by omega) (by omega) (by omega)]; exact a5
      · have := hls ((G.1 j).1 2 0)
        rw [e29, e30, e31, e32, e34, if_neg (by omega), if_neg (by omega), if_neg (by omega), if_neg (by omega), if_neg (by omega)]
        exact a6 q q1 q2
      · rw [e0 35 (by omega) (by omega) (by omega) (by omega) (by omega) (by omega)]; exact a7 j hj hu
end
