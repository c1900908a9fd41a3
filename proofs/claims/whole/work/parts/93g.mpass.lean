/-! pieces of the reference's pass -/
section
variable {Z : zZ} {S0 S : zS} {ar : Nat → Nat} {n w : Nat} {sg : Nat → Nat} {u u' : Nat → Nat → Bool} {G : gT} {i : Nat} {N : nT} {r : Nat} {t l : Nat}
/-- the cells of a ring in use -/
theorem mv_R (H : zMV Z S0 ar n w sg u S G) (hi : i < n) (hr : (G.1 i).1 2 0 = r) (hr8 : r ≠ 8) : mRg (mI S ar) (mJ S ar) n sg u G r := by
  have h := (mV_N H hi).2.2.2
  rw [hr] at h
  exact h hr8
theorem mv_5 (H : zMV Z S0 ar n w sg u S G) (hi : i < n) (hr : (G.1 i).1 2 0 = r) (hr8 : r ≠ 8) : zI S (ar 5) i = nI (sg r) := by
  have h : zI S (ar 5) i = if (G.1 i).1 2 0 = 8 then -1 else nI (sg ((G.1 i).1 2 0)) := (mV_N H hi).2.1
  rw [hr, if_neg hr8] at h
  exact h
theorem m_on (H : zMV Z S0 ar n w sg u S G) (hi : i < n) (hr : (G.1 i).1 2 0 = r) (hr8 : r ≠ 8) (hm : (G.2 r).1 1 0 < 2 ^ n) (hmi : ((G.2 r).1 1 0).testBit i = true) (b : ∀ j, j < n → (G.1 j).1 0 0 < 2 ^ 30 ∧ (G.1 j).1 1 0 < 2 ^ 30) {Qp : zS → Prop} (k : ∀ S', zMV Z S0 ar n w sg u S' (gR G r (rOn G i r)) → Qp S') : w_X7_goesOn Z (ar 0) (nI i) S Qp := by
  have hn := (mV_n H).2.2.2.1
  have h5 := mv_5 H hi hr hr8
  obtain ⟨g1, g24, g25, g28, -, -, -⟩ := mv_R H hi hr hr8
  have g25 : zI S (ar 25) (sg r) = nI ((G.2 r).1 1 0) := g25
  obtain ⟨v5, c5⟩ := mv_in8 H (k := 5) (by omega) (by omega) rfl hi
  have hsl := fun k (h3 : 3 ≤ k) (hk : k < 36) (hm : mln k = 16) => mv_ins H (k := k) (j := sg r) h3 hk hm (by omega) g1
  have cs := (hsl 25 (by omega) (by omega) rfl).2
  unfold w_X7_goesOn
  refine ⟨mV_0 H, ar 5, mq_5 H, mkk_5 H, v5, fun y6 e6 => ?_⟩
  rw [c5, h5] at e6
  subst e6
  have hd : ∀ k, mbf ((G.2 r).1 1 0) i (k + 1) = if ((G.2 r).1 1 0).testBit ((i + (7 - k)) % 8) then (i + (7 - k)) % 8 else mbf ((G.2 r).1 1 0) i k := fun k => rfl
  refine zlp2 (fun x S' => S' = S ∧ ∃ st, st ≤ 7 ∧ x = nI ((i + st) % 8) ∧ mbf ((G.2 r).1 1 0) i (7 - st) = mbf ((G.2 r).1 1 0) i 7) (fun x _ => 8 - ((x.toNatClampNeg + 8 - i) % 8)) (fun rec x S' hI hrec => ?_) _ S ⟨rfl, 0, by omega, by congr 1; omega, rfl⟩
  obtain ⟨rfl, st, hst, rfl, hf⟩ := hI
  unfold wb_X7_goesOn_9
  intro y7 e7
  have e7' : y7 = nI ((i + (st + 1)) % 8) := by
    rw [e7, nI_1]
    have := pk_rem (a := (i + st) % 8 + 1) (d := 8) (by omega) (by omega) (by omega)
    have e : nI ((i + st) % 8 + 1) - nI ((i + st) % 8 + 1) / 8 * 8 = nI (((i + st) % 8 + 1) % 8) := this
    rw [e]
    congr 1
    omega
  subst e7'
  refine ⟨mV_0 H, ar 25, mq_25 H, mkk_25 H, (hsl 25 (by omega) (by omega) rfl).1, ?_⟩
  rw [cs, g25]
  refine m_isIn (by omega) ?_
  rw [bt_nI _ (by omega)]
  -- what the next node is, when it is a member
  have hnext : ((G.2 r).1 1 0).testBit ((i + (st + 1)) % 8) = true → mbf ((G.2 r).1 1 0) i 7 = (i + (st + 1)) % 8 := fun hb => by
    rw [← hf]
    by_cases e : st = 7
    · subst e
      show i = _
      omega
    · obtain ⟨j, hj⟩ : ∃ j, 7 - st = j + 1 := ⟨6 - st, by omega⟩
      rw [hj, hd j]
      have e2 : i + (7 - j) = i + (st + 1) := by omega
      rw [e2, if_pos hb]
  refine ⟨fun q => ?_, fun q => ?_⟩
  · have hb := z01_if.mp q
    have hst7 : st ≠ 7 := fun e => by
      subst e
      rw [show (i + (7 + 1)) % 8 = i by omega, hmi] at hb
      exact Bool.noConfusion hb
    refine hrec _ _ ⟨rfl, st + 1, by omega, rfl, ?_⟩ ?_
    · rw [← hf]
      obtain ⟨j, hj⟩ : ∃ j, 7 - st = j + 1 := ⟨6 - st, by omega⟩
      rw [hj, hd j]
      have e2 : i + (7 - j) = i + (st + 1) := by omega
      rw [e2, if_neg (by rw [hb]; decide)]
      congr 1
      omega
    · rw [nI_clamp (by omega), nI_clamp (by omega)]
      omega
  · have hb : ((G.2 r).1 1 0).testBit ((i + (st + 1)) % 8) = true := by
      by_cases e : ((G.2 r).1 1 0).testBit ((i + (st + 1)) % 8) = true
      · exact e
      · rw [if_neg e] at q; exact absurd rfl q
    have hmb := hnext hb
    have htn := mbf_n hm hi 7
    rw [hmb] at htn
    generalize htk : (i + (st + 1)) % 8 = tk at *
    have H1 := mn_0 H (i := tk)
    have a0 : zI S' (ar 3) tk = nI ((G.1 tk).1 0 0) := mv_F H1 htn 0 (by omega) (by omega) (by omega) (by omega)
    have a1 : zI S' (ar 4) tk = nI ((G.1 tk).1 1 0) := mv_F H1 htn 1 (by omega) (by omega) (by omega) (by omega)
    have a1i : zI S' (ar 4) i = nI ((G.1 i).1 1 0) := mv_F (mn_0 H (i := i)) hi 1 (by omega) (by omega) (by omega) (by omega)
    have z0 : (nI ((G.1 tk).1 0 0) = 0) ↔ (G.1 tk).1 0 0 = 0 := nI_eq (by have := (b tk htn).1; omega) (by omega : 0 < 2 ^ 31)
    have z1 : (nI ((G.1 tk).1 1 0) = nI ((G.1 i).1 1 0)) ↔ (G.1 tk).1 1 0 = (G.1 i).1 1 0 := nI_eq (by have := (b tk htn).2; omega) (by have := (b i hi).2; omega)
    have z2 : (zI S' (ar 5) tk = nI (sg r)) ↔ (G.1 tk).1 2 0 = (G.1 i).1 2 0 := by
      rw [← h5]
      exact mv_rr H hi htn (by rw [hr]; exact hr8)
    obtain ⟨v3, c3⟩ := mv_in8 H (k := 3) (by omega) (by omega) rfl htn
    obtain ⟨v4, -⟩ := mv_in8 H (k := 4) (by omega) (by omega) rfl htn
    obtain ⟨v4i, c4⟩ := mv_in8 H (k := 4) (by omega) (by omega) rfl hi
    obtain ⟨v5t, -⟩ := mv_in8 H (k := 5) (by omega) (by omega) rfl htn
    have hin : r ≠ 8 ∧ ∃ i, i < n ∧ (G.1 i).1 2 0 = r := ⟨hr8, i, hi, hr⟩
    have hNo : reach G i tk = false → wJ_X7_goesOn_67 Z Qp (ar 0) (nI (sg r)) (nI tk) S' := fun hre => by
      unfold wJ_X7_goesOn_67 wJ_X7_goesOn_68
      refine ⟨mV_0 H, ar 26, mq_26 H, fun z => absurd rfl z, fun _ => ⟨mkk_26 H, (hsl 26 (by omega) (by omega) rfl).1, fun S35 e35 => ⟨ar 27, mq_27 H, mkk_27 H, (hsl 27 (by omega) (by omega) rfl).1, fun S40 e40 => k S40 ?_⟩⟩⟩
      rw [cs] at e35 e40
      have H40 := ms_Rt H hin (lo := 1) (tk := tk) (by omega) htn hb
      have e40' : S40 = zsI (zsI S' (ar 26) (sg r) (nI 1)) (ar 27) (sg r) (nI tk) := by rw [e40, e35]; rfl
      rw [← e40'] at H40
      unfold rOn
      rw [hmb, hre, if_neg (by decide)]
      rw [if_neg (fun z => by omega)] at H40
      exact H40
    have hYes : reach G i tk = true → wJ_X7_goesOn_68 Z Qp (ar 0) (nI (sg r)) (nI tk) 1 S' := fun hre => by
      unfold wJ_X7_goesOn_68
      refine ⟨mV_0 H, ar 26, mq_26 H, fun _ => ⟨mkk_26 H, (hsl 26 (by omega) (by omega) rfl).1, fun S35 e35 => ⟨ar 27, mq_27 H, mkk_27 H, (hsl 27 (by omega) (by omega) rfl).1, fun S40 e40 => k S40 ?_⟩⟩, fun z => absurd z (by decide)⟩
      rw [cs] at e35 e40
      have H40 := ms_Rt H hin (lo := 0) (tk := tk) (by omega) htn hb
      have e40' : S40 = zsI (zsI S' (ar 26) (sg r) (nI 0)) (ar 27) (sg r) (nI tk) := by rw [e40, e35]; rfl
      rw [← e40'] at H40
      have hrt : (G.1 tk).1 2 0 = r := by
        unfold reach at hre
        rw [Bool.and_eq_true, Bool.and_eq_true, decide_eq_true_iff, decide_eq_true_iff, decide_eq_true_iff] at hre
        exact hre.2.2.trans hr
      unfold rOn
      rw [hmb, hre, if_pos rfl]
      rw [if_pos ⟨rfl, hrt⟩] at H40
      exact H40
    refine ⟨ar 3, mq_3 H, mkk_3 H, v3, ?_⟩
    rw [c3, a0, z0]
    refine ⟨fun q1 => hNo (by unfold reach; simp [q1]), fun q1 => ⟨ar 4, mq_4 H, mkk_4 H, v4, v4i, ?_⟩⟩
    rw [c5, a1, a1i, z1]
    refine ⟨fun q2 => hNo (by unfold reach; simp [q2]), fun q2 => ⟨v5t, ?_⟩⟩
    rw [z2]
    refine ⟨fun q3 => hNo (by unfold reach; simp [q3]), fun q3 => hYes (by unfold reach; simp [q1, q2, q3])⟩
theorem nRecv_R (N R : nT) (p q v : Nat) : nRecv N (nsI R 4 q v) p = nRecv N R p := by
  have e : ∀ f x, f ≠ 4 → (nsI R 4 q v).1 f x = R.1 f x := fun f x hf => n1_ne _ _ _ _ hf
  have e2 : (nsI R 4 q v).2 = R.2 := rfl
  have ep : prim N (nsI R 4 q v) = prim N R := by
    unfold prim
    rw [e 0 0 (by omega)]
  unfold nRecv
  rw [e 8 p (by omega), e 7 p (by omega), e2, ep]
theorem gGive_R4 (G : gT) (P : Nat → Bool) (r p q x v : Nat) : gGive (gR G r (nsI (G.2 r) 4 x v)) P r p q = gR (gGive G P r p q) r (nsI (G.2 r) 4 x v) := by
  refine Prod.ext (funext fun j => ?_) rfl
  show (if j < q ∧ P j = true then nRecv (G.1 j) ((gR G r (nsI (G.2 r) 4 x v)).2 r) p else G.1 j) = if j < q ∧ P j = true then nRecv (G.1 j) (G.2 r) p else G.1 j
  rw [g2_Rs, nRecv_R]
theorem pP_congr {G G' : gT} {i : Nat} (x : Int32) (h : ∀ j, (G'.1 j).1 0 0 = (G.1 j).1 0 0 ∧ (G'.1 j).1 1 0 = (G.1 j).1 1 0 ∧ (G'.1 j).1 2 0 = (G.1 j).1 2 0) : pP G' i x = pP G i x := by
  funext j
  unfold pP reach
  rw [(h j).1, (h j).2.1, (h j).2.2, (h i).2.1, (h i).2.2]
theorem W_clr {q : Nat} (h : gW n G t l) (hr8 : r ≠ 8) : gW n (gR G r (nsI (G.2 r) 4 q 0)) t l := by
  have hrg := h.2.1 r
  refine W_ring h (fun f x a b c => n1_ne _ _ _ _ b) (fun x => rfl) ?_ (fun p hp => ?_) (fun j hj => ?_) (fun p hp hq => ?_) (fun k hk he => ?_) (fun e => absurd e hr8)
  · rw [n1_ne _ _ _ _ (by omega)]; exact hrg.1.2.1
  · rw [n1_sI]
    split
    · omega
    · exact hrg.2.1 p hp
  · rw [n1_ne _ _ _ _ (by omega)]; exact hrg.2.2.1 j hj
  · rw [n1_sI] at hq
    split at hq
    · exact absurd rfl hq
    · exact h.2.2.2.1.2.1 r p hp hq
  · rw [n1_ne _ _ _ _ (by omega)] at he
    exact h.2.2.2.1.2.2.1 r k hk he
theorem gReq1_012 (n i r : Nat) (P : Nat → Bool) (G : gT) (q : Nat) : ∀ j, ((gReq1 n i r P G q).1 j).1 0 0 = (G.1 j).1 0 0 ∧ ((gReq1 n i r P G q).1 j).1 1 0 = (G.1 j).1 1 0 ∧ ((gReq1 n i r P G q).1 j).1 2 0 = (G.1 j).1 2 0 := fun j => ⟨gReq1_n _ _ _ _ _ _ _ _ (by omega) (by omega) (by omega), gReq1_n _ _ _ _ _ _ _ _ (by omega) (by omega) (by omega), gReq1_n _ _ _ _ _ _ _ _ (by omega) (by omega) (by omega)⟩
/-- what is requested is sent again -/
theorem m_req {L : Nat} {P : Nat → Bool} (H : zMV Z S0 ar n w sg u S G) (h : gW n G t l) (ht : t < 2 ^ 19) (hi : i < n) (hr8 : r ≠ 8) (hP : pR n i r P G) (hL : (G.2 r).1 3 0 = L) {x : Int32} (hx : pP G i x = P) {Qp : Int32 → zS → Prop} {K : zS → Prop} (k : ∀ S', zMV Z S0 ar n w sg u S' (gReq n i r P L L G) → K S') : wL_X7_pass_64 Z (ar 0) (nI i) x (nI (sg r)) Qp K 1 S := by
  have hL100 : L ≤ 100 := by rw [← hL]; exact (h.2.1 r).1.2.2
  refine zlp2 (fun y S' => ∃ k' G', k' ≤ L ∧ y = nI (L + 1 - k') ∧ zMV Z S0 ar n w sg u S' G' ∧ gReq n i r P L k' G' = gReq n i r P L L G ∧ gW n G' t l ∧ pR n i r P G' ∧ (G'.2 r).1 3 0 = L ∧ pP G' i x = P) (fun y _ => 102 - y.toNatClampNeg) (fun rec y S' hI hrec => ?_) _ S ⟨L, G, by omega, by rw [show L + 1 - L = 1 by omega]; rfl, H, rfl, h, hP, hL, hx⟩
  obtain ⟨k', G', hk, rfl, H', hd, hW, hP', hL', hx'⟩ := hI
  obtain ⟨g1, g24, g25, g28, -, gp, -⟩ := mv_R H' hi hP'.1 hr8
  have g28 : zI S' (ar 28) (sg r) = nI L := by rw [← hL']; exact g28
  have hsl := fun k (h3 : 3 ≤ k) (hk : k < 36) (hm : mln k = 16) => mv_ins H (k := k) (j := sg r) h3 hk hm (by omega) g1
  unfold wb_X7_pass_64
  have hle : (nI L < nI (L + 1 - k')) ↔ L < L + 1 - k' := nI_ltI (by omega) (by omega)
  refine ⟨mV_0 H, ar 28, mq_28 H, mkk_28 H, (hsl 28 (by omega) (by omega) rfl).1, ?_⟩
  rw [(hsl 28 (by omega) (by omega) rfl).2, g28, hle]
  refine ⟨fun q => ?_, fun q => ?_⟩
  · have : k' = 0 := by omega
    subst this
    refine k S' ?_
    rw [← hd]
    exact H'
  · obtain ⟨j, rfl⟩ : ∃ j, k' = j + 1 := ⟨k' - 1, by omega⟩
    have e1 : L + 1 - (j + 1) = L - j := by omega
    have e2 : L - j + 1 = L + 1 - j := by omega
    have hμ : 102 - (nI (L + 1 - j)).toNatClampNeg < 102 - (nI (L + 1 - (j + 1))).toNatClampNeg := by rw [nI_clamp (by omega), nI_clamp (by omega)]; omega
    rw [e1, nI_1, e2]
    obtain ⟨-, -, -, -, p34⟩ := gp (L - j) (by omega) (by omega)
    have p34 : zI S' (ar 34) (101 * sg r + (L - j)) = nI ((G'.2 r).1 4 (L - j)) := p34
    have hb4 := (hW.2.1 r).2.1 (L - j) (by omega)
    have z4 : (nI ((G'.2 r).1 4 (L - j)) = 0) ↔ (G'.2 r).1 4 (L - j) = 0 := nI_eq (by omega) (by omega : 0 < 2 ^ 31)
    obtain ⟨v34, c34⟩ := mv_ins H (k := 34) (j := 101 * sg r + (L - j)) (m := 1616) (by omega) (by omega) rfl (by omega) (by omega)
    obtain ⟨a1, b1, c1⟩ := W_req1 (q := L - j) hW hr8 hP' (by omega) (by omega)
    have hgo : ∀ S'', zMV Z S0 ar n w sg u S'' (gReq1 n i r P G' (L - j)) → rec (nI (L + 1 - j)) S'' := fun S'' H'' =>
      hrec _ _ ⟨j, _, by omega, rfl, H'', hd, a1, b1, c1.trans hL', (pP_congr x (gReq1_012 _ _ _ _ _ _)).trans hx'⟩ hμ
    refine m_place ⟨ar 34, mq_34 H, mkk_34 H, v34, ?_⟩
    rw [c34, p34, z4]
    refine ⟨fun q2 y e => ?_, fun q2 => m_has (N := G'.1 i) (R := G'.2 r) (mn_0 H') hi (by rw [hP'.1]; exact hr8) (by rw [hP'.1]) (by omega) (by omega) (by omega) ⟨fun q3 y e => ?_, fun q3 S36 e36 => ?_⟩⟩
    · subst e
      refine hgo S' ?_
      unfold gReq1
      rw [if_neg (fun z => z.1 q2)]
      exact H'
    · subst e
      refine hgo S' ?_
      unfold gReq1
      rw [if_neg (fun z => by rw [if_pos z.2] at q3; exact absurd q3 (by decide))]
      exact H'
    · have h16 : (G'.1 i).1 16 (L - j) ≠ 0 := fun c => by rw [if_neg (fun z => z c)] at q3; exact q3 rfl
      have H36 := ms_Rq H' ⟨hr8, i, hi, hP'.1⟩ (fun r => (hW.2.1 r).1.2.2) (p := L - j) (by omega) (by omega) 0
      have e36' : S36 = zsI S' (ar 34) (101 * sg r + (L - j)) (nI 0) := e36
      rw [← e36'] at H36
      have hW36 := W_clr (q := L - j) hW hr8
      have hir : ((gR G' r (nsI (G'.2 r) 4 (L - j) 0)).1 i).1 2 0 = r := hP'.1
      refine m_comes H36 hW36 ht hi (by rw [hir]; exact hr8) (by omega) (by rw [hir, g2_Rs, n1_ne _ _ _ _ (by omega)]; omega) (fun S37 H37 y e => ?_)
      subst e
      refine hgo S37 ?_
      have hpp : pP (gR G' r (nsI (G'.2 r) 4 (L - j) 0)) i x = P := hx'
      rw [hir, hpp, gGive_R4] at H37
      unfold gReq1
      rw [if_pos ⟨q2, h16⟩]
      exact H37
theorem lff_hi {R : nT} : ∀ (k a : Nat), k ≤ 8 → (∀ j, 8 - k ≤ j → (R.1 1 0).testBit j = false) → lff R k a = a := by
  intro k
  induction k with
  | zero => intro a _ _; rfl
  | succ k ih =>
    intro a hk h
    unfold lff
    rw [if_neg (by rw [h (7 - k) (by omega)]; decide)]
    exact ih a (by omega) (fun j hj => h j (by omega))
/-- the least full of the members -/
theorem m_least154 (H : zMV Z S0 ar n w sg u S G) (hi : i < n) (hr : (G.1 i).1 2 0 = r) (hr8 : r ≠ 8) (hm : (G.2 r).1 1 0 < 2 ^ n) (hb : ∀ j, j < 8 → (G.2 r).1 5 j ≤ 100) (hu : ∀ j, u 5 j = false) {Qp : Int32 → zS → Prop} {K : Int32 → zS → Prop} (k : K (nI (lff (G.2 r) 8 100)) S) : wL_X7_pass_154 Z (ar 0) (nI i) (nI (sg r)) Qp K 100 0 S := by
  have hn := (mV_n H).2.2.2.1
  obtain ⟨g1, -, g25, -, -, -, g35⟩ := mv_R H hi hr hr8
  have g25 : zI S (ar 25) (sg r) = nI ((G.2 r).1 1 0) := g25
  have hsl := fun k (h3 : 3 ≤ k) (hk : k < 36) (hm : mln k = 16) => mv_ins H (k := k) (j := sg r) h3 hk hm (by omega) g1
  refine zlp3 (fun a x S' => S' = S ∧ ∃ k a', k ≤ n ∧ x = nI k ∧ a = nI a' ∧ a' ≤ 100 ∧ lff (G.2 r) (8 - k) a' = lff (G.2 r) 8 100) (fun _ x _ => 9 - x.toNatClampNeg) (fun rec a x S' hI hrec => ?_) _ _ S ⟨rfl, 0, 100, by omega, rfl, rfl, by omega, rfl⟩
  obtain ⟨rfl, j, a', hk, rfl, rfl, ha, hf⟩ := hI
  unfold wb_X7_pass_154
  have hle : (nI n ≤ nI j) ↔ n ≤ j := nI_leI (by omega) (by omega)
  rw [(mV_n H).1, hle]
  refine ⟨mV_0 H, fun q => ?_, fun q => ?_⟩
  · have : j = n := by omega
    subst this
    rw [← hf, lff_hi _ _ (by omega) (fun m hm' => mask_hi hm (by omega))] at k
    exact k
  · have hj : j < n := by omega
    have e8 : (8 : Int32) * nI (sg r) + nI j = nI (8 * sg r + j) := by
      rw [← nI_add]
      exact congrArg (· + nI j) (pk_mul 8 _)
    obtain ⟨v35, c35⟩ := mv_ins H (k := 35) (j := 8 * sg r + j) (m := 128) (by omega) (by omega) rfl (by omega) (by omega)
    have h35 : zI S' (ar 35) (8 * sg r + j) = nI ((G.2 r).1 5 j) := g35 j hj (fun z => by rw [hu j] at z; exact absurd z.1 (by decide))
    have hd : lff (G.2 r) (8 - j) a' = lff (G.2 r) (8 - (j + 1)) (if ((G.2 r).1 1 0).testBit j then (if (G.2 r).1 5 j < a' then (G.2 r).1 5 j else a') else a') := by
      obtain ⟨m, hm'⟩ : ∃ m, 8 - j = m + 1 := ⟨7 - j, by omega⟩
      have e2 : 8 - (j + 1) = m := by omega
      have e3 : 7 - m = j := by omega
      rw [hm', e2]
      show lff (G.2 r) m (if ((G.2 r).1 1 0).testBit (7 - m) then (if (G.2 r).1 5 (7 - m) < a' then (G.2 r).1 5 (7 - m) else a') else a') = _
      rw [e3]
    have hμ : 9 - (nI (j + 1)).toNatClampNeg < 9 - (nI j).toNatClampNeg := by rw [nI_clamp (by omega), nI_clamp (by omega)]; omega
    have hbj := hb j (by omega)
    rw [e8]
    refine ⟨ar 35, mq_35 H, mkk_35 H, v35, fun y52 e52 => ⟨ar 25, mq_25 H, mkk_25 H, (hsl 25 (by omega) (by omega) rfl).1, ?_⟩⟩
    rw [c35, h35] at e52
    subst e52
    rw [(hsl 25 (by omega) (by omega) rfl).2, g25]
    refine m_isIn (by omega) ?_
    rw [bt_nI _ (by omega), nI_1]
    have hl : (nI a' ≤ nI ((G.2 r).1 5 j)) ↔ a' ≤ (G.2 r).1 5 j := nI_leI (by omega) (by omega)
    rw [hl]
    refine ⟨fun q2 y e => ?_, fun q2 => ⟨fun q3 y e => ?_, fun q3 y e => ?_⟩⟩
    · subst e
      rw [if_neg (by rw [z01_if.mp q2]; decide)] at hd
      exact hrec _ _ _ ⟨rfl, j + 1, a', by omega, rfl, rfl, ha, hd.symm.trans hf⟩ hμ
    · subst e
      have hb' : ((G.2 r).1 1 0).testBit j = true := by
        by_cases c : ((G.2 r).1 1 0).testBit j = true
        · exact c
        · rw [if_neg c] at q2; exact absurd rfl q2
      rw [if_pos hb', if_neg (by omega)] at hd
      exact hrec _ _ _ ⟨rfl, j + 1, a', by omega, rfl, rfl, ha, hd.symm.trans hf⟩ hμ
    · subst e
      have hb' : ((G.2 r).1 1 0).testBit j = true := by
        by_cases c : ((G.2 r).1 1 0).testBit j = true
        · exact c
        · rw [if_neg c] at q2; exact absurd rfl q2
      rw [if_pos hb', if_pos (by omega)] at hd
      exact hrec _ _ _ ⟨rfl, j + 1, _, by omega, rfl, rfl, by omega, hd.symm.trans hf⟩ hμ
/-- what is missing is requested -/
theorem m_miss (H : zMV Z S0 ar n w sg u S G) (h : gW n G t l) (hi : i < n) (hr : (G.1 i).1 2 0 = r) (hr8 : r ≠ 8) {Qp : Int32 → zS → Prop} {K : zS → Prop} (k : ∀ S', zMV Z S0 ar n w sg u S' (gR G r (rMiss (G.1 i) (G.2 r) ((G.2 r).1 3 0 + 1))) → K S') : wL_X7_pass_244 Z (ar 0) (nI i) (nI (sg r)) Qp K 1 S := by
  have hl := (h.2.1 r).1.2.2
  have hn := (mV_n H).2.2.2.1
  have g1 := (mv_R H hi hr hr8).1
  have hsl := fun k (h3 : 3 ≤ k) (hk : k < 36) (hm : mln k = 16) => mv_ins H (k := k) (j := sg r) h3 hk hm (by omega) g1
  have H0 : zMV Z S0 ar n w sg u S (gR G r (rMiss (G.1 i) (G.2 r) 1)) := by rw [rMiss_1, gR_self]; exact H
  have e3 : ∀ q, (rMiss (G.1 i) (G.2 r) q).1 3 0 = (G.2 r).1 3 0 := fun q => by
    show (if 3 = 4 ∧ 1 ≤ 0 ∧ 0 < q ∧ (G.1 i).1 16 0 = 0 then 1 else (G.2 r).1 3 0) = _
    rw [if_neg (fun z => by omega)]
  have e4 : ∀ q, (rMiss (G.1 i) (G.2 r) q).1 4 q = (G.2 r).1 4 q := fun q => by
    show (if 4 = 4 ∧ 1 ≤ q ∧ q < q ∧ (G.1 i).1 16 q = 0 then 1 else (G.2 r).1 4 q) = _
    rw [if_neg (fun z => by omega)]
  refine zlp2 (fun x S' => ∃ k', 1 ≤ k' ∧ k' ≤ (G.2 r).1 3 0 + 1 ∧ x = nI k' ∧ zMV Z S0 ar n w sg u S' (gR G r (rMiss (G.1 i) (G.2 r) k'))) (fun x _ => 102 - x.toNatClampNeg) (fun rec x S' hI hrec => ?_) _ S ⟨1, by omega, by omega, rfl, H0⟩
  obtain ⟨k', hk1, hk, rfl, H'⟩ := hI
  have hir : ((gR G r (rMiss (G.1 i) (G.2 r) k')).1 i).1 2 0 = r := hr
  obtain ⟨-, -, -, g28, -, gp, -⟩ := mv_R H' hi hir hr8
  rw [g2_Rs, e3] at g28 gp
  have g28 : zI S' (ar 28) (sg r) = nI ((G.2 r).1 3 0) := g28
  unfold wb_X7_pass_244
  have hle : (nI ((G.2 r).1 3 0) < nI k') ↔ (G.2 r).1 3 0 < k' := nI_ltI (by omega) (by omega)
  refine ⟨mV_0 H, ar 28, mq_28 H, mkk_28 H, (hsl 28 (by omega) (by omega) rfl).1, ?_⟩
  rw [(hsl 28 (by omega) (by omega) rfl).2, g28, hle, nI_1]
  have hμ : k' ≤ 100 → 102 - (nI (k' + 1)).toNatClampNeg < 102 - (nI k').toNatClampNeg := fun h => by rw [nI_clamp (by omega), nI_clamp (by omega)]; omega
  refine ⟨fun q => ?_, fun q => ⟨ar 34, mq_34 H, ?_⟩⟩
  · have : k' = (G.2 r).1 3 0 + 1 := by omega
    subst this
    exact k S' H'
  · obtain ⟨-, -, -, -, p34⟩ := gp k' hk1 (by omega)
    rw [e4] at p34
    have p34 : zI S' (ar 34) (101 * sg r + k') = nI ((G.2 r).1 4 k') := p34
    have hb4 := (h.2.1 r).2.1 k' (by omega)
    obtain ⟨v34, c34⟩ := mv_ins H (k := 34) (j := 101 * sg r + k') (m := 1616) (by omega) (by omega) rfl (by omega) (by omega)
    have hin : r ≠ 8 ∧ ∃ i, i < n ∧ ((gR G r (rMiss (G.1 i) (G.2 r) k')).1 i).1 2 0 = r := ⟨hr8, i, hi, hr⟩
    have hlr : ∀ r', ((gR G r (rMiss (G.1 i) (G.2 r) k')).2 r').1 3 0 ≤ 100 := fun r' => by
      rw [g2_R]
      split
      · rw [e3]; exact hl
      · exact (h.2.1 r').1.2.2
    have or0 : nI ((G.2 r).1 4 k') ||| 0 = nI ((G.2 r).1 4 k') := by
      have : ∀ v, v < 2 → nI v ||| 0 = nI v := by decide +kernel
      exact this _ hb4
    have or1 : nI ((G.2 r).1 4 k') ||| 1 = nI 1 := by
      have : ∀ v, v < 2 → nI v ||| 1 = nI 1 := by decide +kernel
      exact this _ hb4
    refine m_place ⟨mkk_34 H, v34, m_has (G := gR G r (rMiss (G.1 i) (G.2 r) k')) (N := (gR G r (rMiss (G.1 i) (G.2 r) k')).1 i) (R := rMiss (G.1 i) (G.2 r) k') (mn_0 H') hi (by rw [hir]; exact hr8) (by rw [hir, g2_Rs]) hk1 (by rw [e3]; omega) (by rw [e3]; exact hl) ?_⟩
    rw [c34, p34, or0, or1]
    refine ⟨fun q2 => ⟨?_, fun S85 e85 y e => ?_⟩, fun q2 => ⟨Or.inr rfl, fun S88 e88 y e => ?_⟩⟩
    · have : (G.2 r).1 4 k' = 0 ∨ (G.2 r).1 4 k' = 1 := by omega
      rcases this with e | e <;> rw [e]
      · exact Or.inl rfl
      · exact Or.inr rfl
    · subst e
      have h0 : (G.1 i).1 16 k' ≠ 0 := fun c => by rw [if_neg (fun z => z c)] at q2; exact q2 rfl
      have H85 := ms_Rq H' hin hlr (p := k') hk1 (by omega) ((G.2 r).1 4 k')
      rw [← e85, gR_gR, g2_Rs] at H85
      have es : nsI (rMiss (G.1 i) (G.2 r) k') 4 k' ((G.2 r).1 4 k') = rMiss (G.1 i) (G.2 r) k' := by
        have := nsI_self (rMiss (G.1 i) (G.2 r) k') 4 k'
        rw [e4] at this
        exact this
      rw [es] at H85
      exact hrec _ _ ⟨k' + 1, by omega, by omega, rfl, by rw [rMiss_s0 _ _ h0]; exact H85⟩ (hμ (by omega))
    · subst e
      have h0 : (G.1 i).1 16 k' = 0 := by
        by_cases c : (G.1 i).1 16 k' ≠ 0
        · rw [g1_R, if_pos c] at q2; exact absurd q2 (by decide)
        · simpa using c
      have H88 := ms_Rq H' hin hlr (p := k') hk1 (by omega) 1
      rw [← e88, gR_gR, g2_Rs] at H88
      exact hrec _ _ ⟨k' + 1, by omega, by omega, rfl, by rw [rMiss_s1 _ _ hk1 h0]; exact H88⟩ (hμ (by omega))
end
