/-! a pass, stage by stage -/
def pP (G : gT) (i : Nat) (x : Int32) (j : Nat) : Bool := (decide (j ≠ i) && reach G i j) && !bt x j
def gP3 (i r : Nat) (G : gT) : gT := gR G r (nsI (G.2 r) 5 i (fulf (G.1 i) 100))
def gP4 (i r : Nat) (G : gT) : gT := gN G i (nsI (G.1 i) 7 0 (if (G.1 i).1 7 0 < lff (G.2 r) 8 100 then lff (G.2 r) 8 100 else (G.1 i).1 7 0))
def gP5 (i r : Nat) (G : gT) : gT := gR G r (rMiss (G.1 i) (G.2 r) ((G.2 r).1 3 0 + 1))
def gP6 (i r : Nat) (G : gT) : gT := gN G i (dlv (G.2 r) (100 - (G.1 i).1 6 0) (G.1 i))
def gP7 (i r : Nat) (G : gT) : gT := gR G r (rOn G i r)
def gPa (n w i r : Nat) (P : Nat → Bool) (G : gT) : gT := gP5 i r (gP4 i r (gP3 i r (gSend n i r P w (gReq n i r P ((G.2 r).1 3 0) ((G.2 r).1 3 0) G))))
def gPass (n w i : Nat) (x : Int32) (G : gT) : gT := gP7 i ((G.1 i).1 2 0) (gP6 i ((G.1 i).1 2 0) (gPa n w i ((G.1 i).1 2 0) (pP G i x) G))
def gPassA (n w i : Nat) (x : Int32) (G : gT) : Nat := ((gP6 i ((G.1 i).1 2 0) (gPa n w i ((G.1 i).1 2 0) (pP G i x) G)).1 i).1 6 0 - ((gPa n w i ((G.1 i).1 2 0) (pP G i x) G).1 i).1 6 0
/-- the sets that a pass names are of the ring, before and after -/
def pR (n i r : Nat) (P : Nat → Bool) (G : gT) : Prop := (G.1 i).1 2 0 = r ∧ ∀ j, j < n → P j = true → (G.1 j).1 2 0 = r
section
variable {n : Nat} {G : gT} {t l : Nat} {i r : Nat} {P : Nat → Bool}
theorem pR_of {G' : gT} (h : pR n i r P G) (e : ∀ j, (G'.1 j).1 2 0 = (G.1 j).1 2 0) : pR n i r P G' := ⟨by rw [e]; exact h.1, fun j hj hp => by rw [e]; exact h.2 j hj hp⟩
theorem W_req1 {q : Nat} (h : gW n G t l) (hr8 : r ≠ 8) (hP : pR n i r P G) (h1 : 1 ≤ q) (h2 : q ≤ (G.2 r).1 3 0) : gW n (gReq1 n i r P G q) t l ∧ pR n i r P (gReq1 n i r P G q) ∧ ((gReq1 n i r P G q).2 r).1 3 0 = (G.2 r).1 3 0 := by
  refine ⟨?_, pR_of hP (fun j => gReq1_n _ _ _ _ _ _ _ _ (by omega) (by omega) (by omega)), gReq1_r _ _ _ _ _ _ _ _ (by omega)⟩
  unfold gReq1
  split
  · have hg := W_give h hr8 hP.2 h1 h2
    have hrg := h.2.1 r
    refine W_ring hg (fun f x a b c => n1_ne _ _ _ _ b) (fun x => rfl) ?_ (fun p hp => ?_) (fun j hj => ?_) (fun p hp hq => ?_) (fun k hk he => ?_) (fun e => absurd e hr8)
    · rw [n1_ne _ _ _ _ (by omega)]; exact hrg.1.2.1
    · rw [n1_sI]
      split
      · omega
      · exact hrg.2.1 p hp
    · rw [n1_ne _ _ _ _ (by omega)]; exact hrg.2.2.1 j hj
    · rw [n1_sI] at hq
      split at hq
      · exact absurd rfl hq
      · exact h.2.2.2.1.2.1 r p hp hq
    · rw [n1_ne _ _ _ _ (by omega)] at he
      rw [gGive_ne _ _ _ _ _ _ _ (by omega) (by omega) (by omega)]
      exact h.2.2.2.1.2.2.1 r k hk he
  · exact h
theorem W_req {L : Nat} (hr8 : r ≠ 8) : ∀ (k : Nat) (G : gT), gW n G t l → pR n i r P G → (G.2 r).1 3 0 = L → k ≤ L → gW n (gReq n i r P L k G) t l ∧ pR n i r P (gReq n i r P L k G) := by
  intro k
  induction k with
  | zero => intro G h hP _ _; exact ⟨h, hP⟩
  | succ k ih =>
    intro G h hP hL hk
    obtain ⟨a, b, c⟩ := W_req1 (q := L - k) h hr8 hP (by omega) (by omega)
    unfold gReq
    exact ih _ a b (c.trans hL) (by omega)
theorem W_put1 (h : gW n G t l) (hi : i < n) (hi8 : i < 8) (hr8 : r ≠ 8) (hP : pR n i r P G) (hl : (G.2 r).1 3 0 < 100) (hc : (G.1 i).1 11 0 ≠ 0) : gW n (gPut1 n i r P G) t l ∧ pR n i r P (gPut1 n i r P G) := by
  refine ⟨?_, pR_of hP (fun j => gPut1_n _ _ _ _ _ _ _ (by omega) (by omega) (by omega) (by omega) (by omega) (by omega))⟩
  have hp := W_put h hi hi8 hP.1 hr8 hl hc
  unfold gPut1
  refine W_give hp hr8 (fun j hj hp => ?_) (by omega) (by rw [g2_Rs, rPut_3]; exact Nat.le_refl _)
  have : (G.1 j).1 2 0 = r := by
    rcases (Bool.or_eq_true _ _).mp hp with e | e
    · exact hP.2 j hj e
    · rw [decide_eq_true_iff.mp e]; exact hP.1
  rw [g1_R, g1_N]
  split
  · rename_i q
    rw [nShift_ne _ _ (by omega) (by omega) (by omega), ← q]; exact this
  · exact this
theorem W_send (hi : i < n) (hi8 : i < 8) (hr8 : r ≠ 8) : ∀ (k : Nat) (G : gT), gW n G t l → pR n i r P G → gW n (gSend n i r P k G) t l ∧ pR n i r P (gSend n i r P k G) := by
  intro k
  induction k with
  | zero => intro G h hP; exact ⟨h, hP⟩
  | succ k ih =>
    intro G h hP
    unfold gSend
    split
    · rename_i c
      obtain ⟨a, b⟩ := W_put1 h hi hi8 hr8 hP c.1 c.2
      exact ih _ a b
    · exact ⟨h, hP⟩
theorem sOk_of (h : gW n G t l) (ht : t < 2 ^ 20) (hi : i < n) (hr8 : r ≠ 8) (hP : pR n i r P G) : sOk n i r P G := by
  obtain ⟨hnd, hrg, htb, hS, -, -⟩ := h
  refine ⟨fun j hj hp => ?_, fun j hj => ?_, ⟨?_, (hrg r).2.2.2⟩, (hrg r).1.2.2, (hnd i hi).2.1.2.2.2, (hnd i hi).2.2.1, fun j hj hjr p hp hlt => ?_⟩
  · rcases (Bool.or_eq_true _ _).mp hp with e | e
    · exact hP.2 j hj e
    · rw [decide_eq_true_iff.mp e]; exact hP.1
  · have := (htb.1 j hj).2.1; omega
  · have := htb.2 r; omega
  · refine Classical.byContradiction (fun z => ?_)
    have := hS.1 j hj p z
    rw [hjr] at this
    omega
theorem W_3 (h : gW n G t l) (hr8 : r ≠ 8) : gW n (gP3 i r G) t l := by
  have hrg := h.2.1 r
  refine W_ring h (fun f x a b c => n1_ne _ _ _ _ c) (fun x => rfl) ?_ (fun p hp => ?_) (fun j hj => ?_) (fun p hp hq => ?_) (fun k hk he => ?_) (fun e => absurd e hr8)
  · rw [n1_ne _ _ _ _ (by omega)]; exact hrg.1.2.1
  · rw [n1_ne _ _ _ _ (by omega)]; exact hrg.2.1 p hp
  · rw [n1_sI]
    split
    · exact fulf_le _ _
    · exact hrg.2.2.1 j hj
  · rw [n1_ne _ _ _ _ (by omega)] at hq; exact h.2.2.2.1.2.1 r p hp hq
  · rw [n1_ne _ _ _ _ (by omega)] at he; exact h.2.2.2.1.2.2.1 r k hk he
theorem W_4 (h : gW n G t l) (hi : i < n) (hir : (G.1 i).1 2 0 = r) (hr8 : r ≠ 8) : gW n (gP4 i r G) t l := by
  have b := (h.1 i hi).2.1
  have c := h.2.2.1.1 i hi
  have d := lff_le (G.2 r) 8 100
  refine W_node h hi (fun f x h6 h7 h8 h9 h10 => n1_ne _ _ _ _ h7) (fun x => rfl) ?_ ?_ ?_ ?_ ?_ (Nat.le_refl _) (fun e => absurd (hir.symm.trans e) hr8)
  · rw [n1_ne _ _ _ _ (by omega)]; exact b.1
  · rw [n1_eq]
    split
    · exact d
    · exact b.2.1
  · rw [n1_ne _ _ _ _ (by omega)]; exact b.2.2.1
  · rw [n1_ne _ _ _ _ (by omega)]; exact c.2.2.1
  · rw [n1_ne _ _ _ _ (by omega)]; exact c.2.2.2
theorem W_5 (h : gW n G t l) (hr8 : r ≠ 8) : gW n (gP5 i r G) t l := by
  have hrg := h.2.1 r
  have en : ∀ f x, f ≠ 4 → (rMiss (G.1 i) (G.2 r) ((G.2 r).1 3 0 + 1)).1 f x = (G.2 r).1 f x := fun f x a => if_neg (fun z => a z.1)
  have e4 : ∀ x, (rMiss (G.1 i) (G.2 r) ((G.2 r).1 3 0 + 1)).1 4 x = if 1 ≤ x ∧ x < (G.2 r).1 3 0 + 1 ∧ (G.1 i).1 16 x = 0 then 1 else (G.2 r).1 4 x := fun x => z_ifc2 ⟨fun z => z.2, fun z => ⟨rfl, z⟩⟩
  refine W_ring h (fun f x a b c => en f x b) (fun x => rfl) ?_ (fun p hp => ?_) (fun j hj => ?_) (fun p hp hq => ?_) (fun k hk he => ?_) (fun e => absurd e hr8)
  · rw [en 2 0 (by omega)]; exact hrg.1.2.1
  · rw [e4]
    split
    · omega
    · exact hrg.2.1 p hp
  · rw [en 5 j (by omega)]; exact hrg.2.2.1 j hj
  · rw [e4] at hq
    split at hq
    · rename_i z; exact ⟨z.1, by omega⟩
    · exact h.2.2.2.1.2.1 r p hp hq
  · rw [en 2 0 (by omega)] at he; exact h.2.2.2.1.2.2.1 r k hk he
theorem nDel_9 (N R : nT) (p : Nat) : (nDel N R p).1 9 0 = N.1 9 0 ∨ (nDel N R p).1 9 0 = p := by
  unfold nDel
  split
  · refine Or.inr ?_
    unfold nApply
    rw [n1_eq]
  · exact Or.inl (nTellM_ne _ _ _ _ _ _ _ (by omega) (by omega))
theorem dlv_9 (R : nT) : ∀ (k : Nat) (N : nT), N.1 9 0 ≤ 100 → (dlv R k N).1 9 0 ≤ 100 := by
  intro k
  induction k with
  | zero => intro N h; exact h
  | succ k ih =>
    intro N h
    unfold dlv
    split
    · refine ih _ ?_
      rcases nDel_9 N R (100 - k) with e | e <;> omega
    · exact h
theorem nTell_j (N : nT) (a b c d e g : Int64) {f : Nat} (x : Nat) (h : f ≠ 2) : (nTell N a b c d e g).2 f x = N.2 f x := by
  unfold nTell
  rw [n2_sI, n2_ne _ _ _ _ h, n2_ne _ _ _ _ h, n2_ne _ _ _ _ h, n2_ne _ _ _ _ h, n2_ne _ _ _ _ h, n2_ne _ _ _ _ h]
theorem nTellM_j (N : nT) (num p snd key : Nat) (v : Int64) {f : Nat} (x : Nat) (h : f ≠ 2) : (nTellM N num p snd key v).2 f x = N.2 f x := by
  unfold nTellM
  rw [nTell_j _ _ _ _ _ _ _ _ h]
  rfl
theorem nDel_j (N R : nT) (p : Nat) {f : Nat} (x : Nat) (h : f ≠ 2) (h0 : f ≠ 0) (h1 : f ≠ 1) : (nDel N R p).2 f x = N.2 f x := by
  unfold nDel
  split
  · rw [nApply_j _ _ _ _ _ h0 h1, nTellM_j _ _ _ _ _ _ _ h]
  · rw [nTellM_j _ _ _ _ _ _ _ h]
theorem dlv_j (R : nT) {f : Nat} (x : Nat) (h : f ≠ 2) (h0 : f ≠ 0) (h1 : f ≠ 1) : ∀ (k : Nat) (N : nT), (dlv R k N).2 f x = N.2 f x := by
  intro k
  induction k with
  | zero => intro N; rfl
  | succ k ih =>
    intro N
    unfold dlv
    split
    · rw [ih, nDel_j _ _ _ _ h h0 h1]
    · rfl
theorem W_6 (h : gW n G t l) (hi : i < n) (hir : (G.1 i).1 2 0 = r) (hr8 : r ≠ 8) : gW n (gP6 i r G) t (l + 100) := by
  have b := (h.1 i hi).2.1
  have c := h.2.2.1.1 i hi
  obtain ⟨a10, a8, aff⟩ := dlv_facts (G.2 r) (100 - (G.1 i).1 6 0) (G.1 i)
  refine W_node h hi (fun f x h6 h7 h8 h9 h10 => aff f x h6 h10 h8 h9) (fun x => dlv_j _ _ (by omega) (by omega) (by omega) _ _) (dlv_6 _ _ _ (by omega) (by omega)).2 ?_ (dlv_9 _ _ _ b.2.2.1) (by omega) (by omega) (by omega) (fun e => absurd (hir.symm.trans e) hr8)
  rw [aff 7 0 (by omega) (by omega) (by omega) (by omega)]; exact b.2.1
theorem W_7 (h : gW n G t l) (hi : i < n) (hi8 : i < 8) (hir : (G.1 i).1 2 0 = r) (hr8 : r ≠ 8) : gW n (gP7 i r G) t l := by
  have hrg := h.2.1 r
  have hb := mbf_n (hrg.1.1) hi 7
  refine W_ring h (fun f x a b c => n1_ne _ _ _ _ a) (fun x => rfl) ?_ (fun p hp => ?_) (fun j hj => ?_) (fun p hp hq => ?_) (fun k hk he => ?_) (fun e => absurd e hr8)
  · unfold rOn
    rw [n1_eq]
    split <;> omega
  · unfold rOn; rw [n1_ne _ _ _ _ (by omega)]; exact hrg.2.1 p hp
  · unfold rOn; rw [n1_ne _ _ _ _ (by omega)]; exact hrg.2.2.1 j hj
  · unfold rOn at hq; rw [n1_ne _ _ _ _ (by omega)] at hq; exact h.2.2.2.1.2.1 r p hp hq
  · unfold rOn at he
    rw [n1_eq] at he
    split at he
    · rename_i c
      have : mbf ((G.2 r).1 1 0) i 7 = k := by omega
      rw [this] at c
      unfold reach at c
      rw [Bool.and_eq_true, Bool.and_eq_true, decide_eq_true_iff, decide_eq_true_iff, decide_eq_true_iff] at c
      exact c.2.2.trans hir
    · omega
theorem gP3_n (G : gT) (i r j : Nat) : (gP3 i r G).1 j = G.1 j := rfl
theorem gP5_n (G : gT) (i r j : Nat) : (gP5 i r G).1 j = G.1 j := rfl
theorem gP4_2 (G : gT) (i r j : Nat) : ((gP4 i r G).1 j).1 2 0 = (G.1 j).1 2 0 := by
  unfold gP4
  rw [g1_N]
  split
  · rename_i q; rw [n1_ne _ _ _ _ (by omega), q]
  · rfl
theorem gP6_2 (G : gT) (i r j : Nat) : ((gP6 i r G).1 j).1 2 0 = (G.1 j).1 2 0 := by
  unfold gP6
  rw [g1_N]
  split
  · rename_i q; rw [(dlv_facts _ _ _).2.2 2 0 (by omega) (by omega) (by omega) (by omega), q]
  · rfl
theorem W_pa {w : Nat} (h : gW n G t l) (hi : i < n) (hi8 : i < 8) (hr8 : r ≠ 8) (hP : pR n i r P G) : gW n (gPa n w i r P G) t l ∧ pR n i r P (gPa n w i r P G) := by
  obtain ⟨a1, b1⟩ := W_req (L := (G.2 r).1 3 0) hr8 ((G.2 r).1 3 0) G h hP rfl (Nat.le_refl _)
  obtain ⟨a2, b2⟩ := W_send hi hi8 hr8 w _ a1 b1
  have a3 := W_3 (i := i) a2 hr8
  have b3 : pR n i r P (gP3 i r (gSend n i r P w (gReq n i r P ((G.2 r).1 3 0) ((G.2 r).1 3 0) G))) := b2
  have a4 := W_4 a3 hi b3.1 hr8
  have b4 := pR_of b3 (fun j => gP4_2 _ i r j)
  exact ⟨W_5 a4 hr8, b4⟩
theorem pP_R {x : Int32} : pR n i ((G.1 i).1 2 0) (pP G i x) G := by
  refine ⟨rfl, fun j hj hp => ?_⟩
  unfold pP reach at hp
  rw [Bool.and_eq_true, Bool.and_eq_true, Bool.and_eq_true, Bool.and_eq_true, decide_eq_true_iff, decide_eq_true_iff, decide_eq_true_iff, decide_eq_true_iff] at hp
  exact hp.1.2.2.2
theorem W_pass {w : Nat} {x : Int32} (h : gW n G t l) (hi : i < n) (hi8 : i < 8) (hr8 : (G.1 i).1 2 0 ≠ 8) : gW n (gPass n w i x G) t (l + 100) := by
  obtain ⟨a5, b5⟩ := W_pa (w := w) h hi hi8 hr8 (pP_R (n := n) (i := i) (x := x))
  have a6 := W_6 a5 hi b5.1 hr8
  exact W_7 a6 hi hi8 (by rw [gP6_2]; exact b5.1) hr8
end
