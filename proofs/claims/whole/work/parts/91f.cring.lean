/-! a node forgets what it kept, leaves a ring, joins one, takes another's table -/
theorem nsI_self (N : nT) (f j : Nat) : nsI N f j (N.1 f j) = N := by
  refine Prod.ext (funext fun x => funext fun y => ?_) rfl
  rw [n1_sI]
  by_cases h : x = f ∧ y = j
  · rw [if_pos h, h.1, h.2]
  · rw [if_neg h]
theorem nsJ_self (N : nT) (f j : Nat) : nsJ N f j (N.2 f j) = N := by
  refine Prod.ext rfl (funext fun x => funext fun y => ?_)
  rw [n2_sJ]
  by_cases h : x = f ∧ y = j
  · rw [if_pos h, h.1, h.2]
  · rw [if_neg h]
def nForget (N : nT) (q : Nat) : nT := (fun f j => if f = 14 ∧ j < q then 0 else if f = 9 ∧ j = 0 then 0 else N.1 f j, N.2)
def nLeave (N : nT) : nT := (fun f j => if f = 16 then 0 else if f = 2 ∧ j = 0 then 8 else if (f = 6 ∨ f = 7) ∧ j = 0 then 0 else N.1 f j, N.2)
def nJoin (N R : nT) (r : Nat) (p : Bool) : nT :=
  if p then nTell (nForget (nsI (nsI (nsI (nsI N 2 0 r) 3 0 (R.1 0 0)) 4 0 (R.1 0 0)) 5 0 (R.1 1 0)) 101) (lN 3) (lN (R.1 1 0)) (lN 0) (lN 0) 0 (lN (R.1 0 0))
  else nTell (nsI (nsI N 2 0 r) 3 0 (R.1 0 0)) (lN 3) (lN (R.1 1 0)) (lN 0) (lN 0) 0 (lN (R.1 0 0))
def nCopy (N M : nT) (q : Nat) : nT := (N.1, fun f j => if f = 1 ∧ j < q then M.2 1 j else N.2 f j)
section
variable {Z : zZ} {S0 S : zS} {ad : Nat → Nat → Nat} {n w : Nat} {G : gT} {i : Nat} {N : nT}
theorem cn_K0 (H : zCV Z S0 ad n w S (gN G i N)) {p : Nat} (hi : i < n) : zCV Z S0 ad n w (zsR S (ad 8 i) p none) (gN G i (nsI N 14 p 0)) := by
  have h := cn_K H (p := p) hi 0 (N.1 15 p) (N.2 14 p) none (fun _ => rfl) (fun q => absurd rfl q)
  have e1 : nsI (nsI N 14 p 0) 15 p (N.1 15 p) = nsI N 14 p 0 := by
    have := nsI_self (nsI N 14 p 0) 15 p
    rw [n1_ne _ _ _ _ (by omega)] at this
    exact this
  rw [e1] at h
  have e2 : nsJ (nsI N 14 p 0) 14 p (N.2 14 p) = nsI N 14 p 0 := nsJ_self (nsI N 14 p 0) 14 p
  rw [e2] at h
  exact h
theorem c_forget (H : zCV Z S0 ad n w S (gN G i N)) (hi : i < n) {Qp : zS → Prop} (k : ∀ S', zCV Z S0 ad n w S' (gN G i (nForget N 101)) → Qp S') : w_X4_forgetKept Z (ad 6 i) S Qp := by
  obtain ⟨-, -, ⟨f1, f2, f3, f4, f5, f6, f7⟩, -, -⟩ := zCV_nd H hi
  unfold w_X4_forgetKept
  refine ⟨f1, fun S2 e2 => ?_⟩
  have H2 := cn_I H hi 9 (by omega) (by omega) (v := 0) (by omega)
  have e2' : S2 = zsI S (ad (cT 9) i) (cS 9) (nI 0) := e2
  rw [← e2'] at H2
  have e3 : nsI N 9 0 0 = nForget N 0 := by
    refine Prod.ext (funext fun f => funext fun j => ?_) rfl
    show (if f = 9 ∧ j = 0 then 0 else N.1 f j) = if f = 14 ∧ j < 0 then 0 else if f = 9 ∧ j = 0 then 0 else N.1 f j
    rw [if_neg (c := f = 14 ∧ j < 0) (fun q => by omega)]
  rw [e3] at H2
  refine zlp2 (fun x S' => ∃ k', k' ≤ 101 ∧ x = nI k' ∧ zCV Z S0 ad n w S' (gN G i (nForget N k'))) (fun x _ => 102 - x.toNatClampNeg) (fun rec x S' hI hrec => ?_) _ S2 ⟨0, by omega, rfl, H2⟩
  obtain ⟨k', hk, rfl, H'⟩ := hI
  unfold wb_X4_forgetKept_7
  have hle : (100 : Int32) < nI k' ↔ 100 < k' := nI_ltI (a := 100) (by omega) (by omega)
  rw [hle, nI_1, nI_clamp (by omega)]
  refine ⟨fun q => ?_, fun q => ⟨f1, ad 8 i, f3, f6, by rw [f7]; exact vp_in_nI (by omega) (by omega), fun S8 e8 y e => ?_⟩⟩
  · have : k' = 101 := by omega
    subst this
    exact k S' H'
  · subst e
    have H8 := cn_K0 H' (p := k') hi
    rw [← e8] at H8
    have e4 : nsI (nForget N k') 14 k' 0 = nForget N (k' + 1) := by
      refine Prod.ext (funext fun f => funext fun j => ?_) rfl
      show (if f = 14 ∧ j = k' then 0 else if f = 14 ∧ j < k' then 0 else if f = 9 ∧ j = 0 then 0 else N.1 f j) = if f = 14 ∧ j < k' + 1 then 0 else if f = 9 ∧ j = 0 then 0 else N.1 f j
      by_cases h1 : f = 14 ∧ j = k'
      · rw [if_pos h1, if_pos (by omega)]
      · rw [if_neg h1]
        by_cases h2 : f = 14 ∧ j < k'
        · rw [if_pos h2, if_pos (by omega)]
        · rw [if_neg h2, if_neg (c := f = 14 ∧ j < k' + 1) (by omega)]
    rw [e4] at H8
    refine hrec _ _ ⟨k' + 1, by omega, rfl, H8⟩ ?_
    rw [nI_clamp (by omega), nI_clamp (by omega)]
    omega
/-- the ring of a node that has nothing -/
theorem cn_ring (H : zCV Z S0 ad n w S (gN G i N)) (hi : i < n) {r : Nat} (hr : zri n r) (h0 : ∀ p, p < 101 → N.1 16 p = 0) : zCV Z S0 ad n w (zsR S (ad 3 i) 7 (some (ad 12 r))) (gN G i (nsI N 2 0 r)) := by
  obtain ⟨⟨k1, k2, k3, k4, k5, k6⟩, hr0⟩ := cv_n H hi
  have hb : ∀ b, zk Z b 1 → zAt S (zsR S (ad 3 i) 7 (some (ad 12 r))) b := fun b hb => zAt_sR S _ _ (zCV_nm H _ _ _ hb)
  have e2 : ∀ t, t ≠ 3 → zR (zsR S (ad 3 i) 7 (some (ad 12 r))) (ad t i) = zR S (ad t i) := fun t ht => zu_ne _ _ _ _ _ (zCV_ne H (fun q => ht q.1))
  have h := zCV_node H (t := 3) (S' := zsR S (ad 3 i) 7 (some (ad 12 r))) (N := nsI N 2 0 r) (by omega) (by omega) (fun a ha => zAt_sR S _ _ ha) (by rw [n1_eq]; exact hr) ⟨⟨k1.1, fun f hf h2 => ?_⟩, ?_, k3, fun k hk => ?_, fun q hq => ?_, fun q hq => ?_⟩
  · rw [gN_gN] at h; exact h
  · rw [n1_ne _ _ _ _ h2]; exact k1.2 f hf h2
  · unfold cnR
    rw [n1_eq, zR_sR, if_pos ⟨rfl, rfl⟩]
  · rw [n1_ne _ _ _ _ (by omega)] at hk
    rw [n1_ne _ _ _ _ (by omega), n1_ne _ _ _ _ (by omega)]
    exact cnP_at (e2 _ (by omega)) hb k4 k hk
  · rw [n1_ne _ _ _ _ (by omega), n1_ne _ _ _ _ (by omega)]
    exact cnK_at (e2 _ (by omega)) hb k5 q hq
  · rw [n1_ne _ _ _ _ (by omega), e2 _ (by omega)]
    exact ⟨(k6 q hq).1, fun hn => absurd (h0 q hq) hn⟩
theorem nForget_ne (N : nT) (q : Nat) {f : Nat} (j : Nat) (h1 : f ≠ 14) (h2 : f ≠ 9) : (nForget N q).1 f j = N.1 f j := by
  show (if f = 14 ∧ j < q then 0 else if f = 9 ∧ j = 0 then 0 else N.1 f j) = _
  rw [if_neg (fun q => h1 q.1), if_neg (fun q => h2 q.1)]
theorem c_join (H : zCV Z S0 ad n w S (gN G i N)) (hi : i < n) {r : Nat} (hr : zri n r) (h0 : ∀ p, p < 101 → N.1 16 p = 0) {R : nT} (hR : G.2 r = R) (hb0 : R.1 0 0 < 2 ^ 30) (hb1 : R.1 1 0 < 2 ^ 30) (hB : N.1 10 0 < 2 ^ 30) {p1 : Int32} {Qp : zS → Prop} (k : ∀ S', zCV Z S0 ad n w S' (gN G i (nJoin N R r (decide (p1 ≠ 0)))) → Qp S') : w_X2_joinRing Z (ad 3 i) (ad 12 r) p1 S Qp := by
  subst hR
  obtain ⟨⟨d1, d2, d3, d4, d5⟩, -, ⟨f1, -⟩, ⟨l1, -⟩, -⟩ := zCV_nd H hi
  have hrk := (zCV_rg H hr).1
  unfold w_X2_joinRing
  refine ⟨d1, fun S2 e2 => ⟨hrk, fun S4 e4 => ?_⟩⟩
  have H2 := cn_ring H hi hr h0
  rw [← e2] at H2
  have g2 : zI S2 (ad 12 r) 2 = nI ((G.2 r).1 0 0) := (cv_R H2 hr).1.1
  have H4 := cn_I H2 hi 3 (by omega) (by omega) (v := (G.2 r).1 0 0) (by omega)
  have e4' : S4 = zsI S2 (ad (cT 3) i) (cS 3) (nI ((G.2 r).1 0 0)) := by rw [e4, g2]; rfl
  rw [← e4'] at H4
  have hlast : ∀ S' N', zCV Z S0 ad n w S' (gN G i N') → N'.1 10 0 < 2 ^ 30 → (∀ S'', zCV Z S0 ad n w S'' (gN G i (nTell N' (lN 3) (lN ((G.2 r).1 1 0)) (lN 0) (lN 0) 0 (lN ((G.2 r).1 0 0)))) → Qp S'') → wJ_X2_joinRing_40 Z Qp (ad 3 i) (ad 12 r) S' := fun S' N' H' hB' k' => by
    unfold wJ_X2_joinRing_40
    have g2' : zI S' (ad 12 r) 2 = nI ((G.2 r).1 0 0) := (cv_R H' hr).1.1
    have g3' : zI S' (ad 12 r) 3 = nI ((G.2 r).1 1 0) := (cv_R H' hr).1.2.1
    refine ⟨d1, ad 9 i, d4, hrk, l1, ?_⟩
    rw [g2', g3']
    refine c_add H' hi hB' (fun S'' H'' => k' S'' ?_)
    rw [nI_l (by omega), nI_l (by omega)] at H''
    exact H''
  refine ⟨fun q => ?_, fun q S11 e11 S12 e12 => ⟨ad 6 i, d3, f1, ?_⟩⟩
  · refine hlast S4 _ H4 ?_ (fun S'' H'' => k S'' ?_)
    · rw [n1_ne _ _ _ _ (by omega), n1_ne _ _ _ _ (by omega)]; exact hB
    · unfold nJoin
      rw [if_neg (by simp [q])]
      exact H''
  · have g4 : zI S4 (ad 12 r) 2 = nI ((G.2 r).1 0 0) := (cv_R H4 hr).1.1
    have H11 := cn_I H4 hi 4 (by omega) (by omega) (v := (G.2 r).1 0 0) (by omega)
    have e11' : S11 = zsI S4 (ad (cT 4) i) (cS 4) (nI ((G.2 r).1 0 0)) := by rw [e11, g4]; rfl
    rw [← e11'] at H11
    have g5 : zI S11 (ad 12 r) 3 = nI ((G.2 r).1 1 0) := (cv_R H11 hr).1.2.1
    have H12 := cn_I H11 hi 5 (by omega) (by omega) (v := (G.2 r).1 1 0) (by omega)
    have e12' : S12 = zsI S11 (ad (cT 5) i) (cS 5) (nI ((G.2 r).1 1 0)) := by rw [e12, g5]; rfl
    rw [← e12'] at H12
    refine c_forget H12 hi (fun S16 H16 => hlast S16 _ H16 ?_ (fun S'' H'' => k S'' ?_))
    · rw [nForget_ne _ _ _ (by omega) (by omega), n1_ne _ _ _ _ (by omega), n1_ne _ _ _ _ (by omega), n1_ne _ _ _ _ (by omega), n1_ne _ _ _ _ (by omega)]; exact hB
    · unfold nJoin
      rw [if_pos (by simp [q])]
      exact H''
/-- a node leaves its ring: the raw state after the writes -/
theorem c_leave_fin (H : zCV Z S0 ad n w S (gN G i N)) (hi : i < n) {S' : zS} (hI : ∀ a j, ¬ (a = ad 3 i ∧ (j = 11 ∨ j = 12)) → zI S' a j = zI S a j) (hJ : zJ S' = zJ S) (h11 : zI S' (ad 3 i) 11 = 0) (h12 : zI S' (ad 3 i) 12 = 0) (hR : ∀ a, a ≠ ad 3 i → a ≠ ad 11 i → zR S' a = zR S a) (h7 : zR S' (ad 3 i) 7 = some (ad 12 8)) (hh : ∀ p, p < 101 → zR S' (ad 11 i) p = none) : zCV Z S0 ad n w S' (gN G i (nLeave N)) := by
  obtain ⟨⟨k1, k2, k3, k4, k5, k6⟩, hr0⟩ := cv_n H hi
  have hat : ∀ a, a ≠ ad 3 i → a ≠ ad 11 i → zAt S S' a := fun a h3 h11 => ⟨funext fun j => hI a j (fun q => h3 q.1), by rw [hJ], hR a h3 h11⟩
  have hb : ∀ b, zk Z b 1 → zAt S S' b := fun b hb => hat b (zCV_nm H _ _ _ hb) (zCV_nm H _ _ _ hb)
  have hn : ∀ f j, f ≠ 16 → f ≠ 2 → f ≠ 6 → f ≠ 7 → (nLeave N).1 f j = N.1 f j := fun f j a b c d => by
    show (if f = 16 then 0 else if f = 2 ∧ j = 0 then 8 else if (f = 6 ∨ f = 7) ∧ j = 0 then 0 else N.1 f j) = _
    rw [if_neg a, if_neg (fun q => b q.1), if_neg (fun q => by omega)]
  have h := zCV_nodeS H (i := i) (S' := S') (N := nLeave N) (fun a ha => hat a (ha 3 (by omega) (by omega)) (ha 11 (by omega) (by omega))) (Or.inr rfl) ⟨⟨?_, fun f hf h2 => ?_⟩, h7, ⟨?_, fun q hq => ?_, fun q hq => ?_⟩, fun q hq => ?_, fun q hq => ?_, fun q hq => ⟨fun _ => hh q hq, fun q2 => absurd rfl q2⟩⟩
  · rw [gN_gN] at h; exact h
  · rw [hI _ _ (fun q => by omega)]; exact k1.1
  · by_cases e6 : f = 6
    · subst e6; exact h11
    · by_cases e7 : f = 7
      · subst e7; exact h12
      · rw [hn f 0 (by omega) h2 e6 e7, hI _ _ (fun q => ?_)]
        · exact k1.2 f hf h2
        · have q1 := (zCV_inj H).mp q.1
          have : cT f = cT 6 := q1.1
          rcases q.2 with q2 | q2
          · exact e6 (cTS_inj f hf 6 (by omega) this q2)
          · exact e7 (cTS_inj f hf 7 (by omega) this q2)
  · rw [hJ]; exact k3.1
  · rw [hJ]; exact k3.2.1 q hq
  · rw [hJ]; exact k3.2.2 q hq
  · rw [hn _ _ (by omega) (by omega) (by omega) (by omega)] at hq
    rw [hn _ _ (by omega) (by omega) (by omega) (by omega), hn _ _ (by omega) (by omega) (by omega) (by omega)]
    exact cnP_at (hR _ (zCV_ne H (fun q => by omega)) (zCV_ne H (fun q => by omega))) hb k4 q hq
  · rw [hn _ _ (by omega) (by omega) (by omega) (by omega), hn _ _ (by omega) (by omega) (by omega) (by omega)]
    exact cnK_at (hR _ (zCV_ne H (fun q => by omega)) (zCV_ne H (fun q => by omega))) hb k5 q hq
theorem c_leave_loop (H : zCV Z S0 ad n w S (gN G i N)) (hi : i < n) {S7 : zS} (e7 : S7 = zsI (zsI (zsR S (ad 3 i) 7 (some (ad 12 8))) (ad 3 i) 11 0) (ad 3 i) 12 0) {Qp K : zS → Prop} (k : ∀ S', zCV Z S0 ad n w S' (gN G i (nLeave N)) → K S') : wL_X2_leaveRing_39 Z (ad 3 i) Qp K 0 S7 := by
  obtain ⟨⟨d1, d2, d3, d4, d5⟩, -, -, -, ⟨f1, f2⟩⟩ := zCV_nd H hi
  refine zlp2 (fun x S' => ∃ k', k' ≤ 101 ∧ x = nI k' ∧ zI S' = zI S7 ∧ zJ S' = zJ S7 ∧ (∀ a, a ≠ ad 11 i → zR S' a = zR S7 a) ∧ ∀ p, p < k' → zR S' (ad 11 i) p = none) (fun x _ => 102 - x.toNatClampNeg) (fun rec x S' hI hrec => ?_) _ S7 ⟨0, by omega, rfl, rfl, rfl, fun _ _ => rfl, fun p hp => absurd hp (by omega)⟩
  obtain ⟨k', hk, rfl, g1, g2, g3, g4⟩ := hI
  unfold wb_X2_leaveRing_39
  have hle : (100 : Int32) < nI k' ↔ 100 < k' := nI_ltI (a := 100) (by omega) (by omega)
  rw [hle, nI_1, nI_clamp (by omega)]
  have n311 : ad 3 i ≠ ad 11 i := zCV_ne H (fun q => by omega)
  refine ⟨fun q => ?_, fun q => ⟨d1, ad 11 i, d5, f1, by rw [f2]; exact vp_in_nI (by omega) (by omega), fun S8 e8 y e => ?_⟩⟩
  · have : k' = 101 := by omega
    subst this
    refine k S' (c_leave_fin H hi (fun a j ha => ?_) ?_ ?_ ?_ (fun a h3 h11 => ?_) ?_ g4)
    · rw [g1, e7, zI_sI, if_neg (fun q => ha ⟨q.1, Or.inr q.2⟩), zI_sI, if_neg (fun q => ha ⟨q.1, Or.inl q.2⟩)]
      rfl
    · rw [g2, e7]; rfl
    · rw [g1, e7, zI_sI, if_neg (fun q => by omega), zI_sI, if_pos ⟨rfl, rfl⟩]
    · rw [g1, e7, zI_sI, if_pos ⟨rfl, rfl⟩]
    · rw [g3 a h11, e7]
      exact zu_ne _ _ _ _ _ h3
    · rw [g3 _ n311, e7]
      exact if_pos ⟨rfl, rfl⟩
  · subst e
    refine hrec _ _ ⟨k' + 1, by omega, rfl, ?_, ?_, fun a ha => ?_, fun p hp => ?_⟩ ?_
    · rw [e8]; exact g1
    · rw [e8]; exact g2
    · rw [e8]
      exact (zu_ne _ _ _ _ _ ha).trans (g3 a ha)
    · rw [e8, zR_sR]
      by_cases e : p = k'
      · rw [if_pos ⟨rfl, e⟩]
      · rw [if_neg (fun q => e q.2)]
        exact g4 p (by omega)
    · rw [nI_clamp (by omega), nI_clamp (by omega)]
      omega
/-- what leaving does to the ring: it loses the token, if the node holds it -/
def rLeave (R : nT) (i : Nat) : nT := if R.1 2 0 = i + 1 then nsI R 2 0 0 else R
theorem c_leave (H : zCV Z S0 ad n w S (gN G i N)) (hi : i < n) {R : nT} (hR : G.2 (N.1 2 0) = R) (h2 : R.1 2 0 < 2 ^ 30) {Qp : zS → Prop} (k : ∀ S', zCV Z S0 ad n w S' (gN (gR G (N.1 2 0) (rLeave R i)) i (nLeave N)) → Qp S') : w_X2_leaveRing Z (ad 3 i) (ad 12 8) S Qp := by
  subst hR
  obtain ⟨⟨d1, d2, d3, d4, d5⟩, -, -, -, ⟨f1, f2⟩⟩ := zCV_nd H hi
  have hr : zri n (N.1 2 0) := (cv_n H hi).2
  have hn8 := (zCV_n H).2
  have g2 : zI S (ad 12 (N.1 2 0)) 4 = nI ((G.2 (N.1 2 0)).1 2 0) - 1 := (cv_R H hr).1.2.2.1
  have g0 := cv_num H hi
  have e0 : (nI ((G.2 (N.1 2 0)).1 2 0) - 1 = nI i) ↔ (G.2 (N.1 2 0)).1 2 0 = i + 1 := by
    constructor
    · intro q
      refine (nI_eq (by omega) (by omega)).mp ?_
      rw [← nI_1, ← q]
      simp
    · intro q
      rw [q]
      exact nI_pred i
  unfold w_X2_leaveRing
  refine ⟨d1, ad 12 (N.1 2 0), cv_ring H hi, (zCV_rg H hr).1, ?_⟩
  rw [g2, g0, e0]
  refine ⟨fun q S5 e5 S6 e6 S7 e7 => ?_, fun q S17 e17 S18 e18 S19 e19 S20 e20 => ?_⟩
  · refine c_leave_loop H hi (by rw [e7, e6, e5]) (fun S' H' => k S' ?_)
    unfold rLeave
    rw [if_neg q, gR_self]
    exact H'
  · have H17 := cs_R H hr (f := 2) (by omega) 0 (-1) (by decide)
    have e17' : S17 = zsI S (ad 12 (N.1 2 0)) (2 + 2) (-1) := e17
    rw [← e17', ← gN_gR] at H17
    refine c_leave_loop H17 hi (by rw [e20, e19, e18]) (fun S' H' => k S' ?_)
    unfold rLeave
    rw [if_pos q]
    exact H'
end
