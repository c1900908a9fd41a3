/-! a ring ends for those of a set; all old rings end -/
def nEndT (N R : nT) (t : Nat) : nT := dlf R t (100 - (dlv R (100 - N.1 6 0) N).1 6 0) false (nTell (dlv R (100 - N.1 6 0) N) (lN 2) (lN t) (lN 0) (lN 0) 0 (lN (R.1 0 0)))
theorem nTell_ne (N : nT) (a b c d e g : Int64) {f : Nat} (j : Nat) (h : f ≠ 10) : (nTell N a b c d e g).1 f j = N.1 f j := by
  unfold nTell
  exact n1_ne _ _ _ _ h
theorem nTell_10 (N : nT) (a b c d e g : Int64) : (nTell N a b c d e g).1 10 0 = N.1 10 0 + 1 := by
  unfold nTell
  rw [n1_eq]
theorem nEndT_ne (N R : nT) (t : Nat) {f : Nat} (j : Nat) (h6 : f ≠ 6) (h10 : f ≠ 10) (h8 : f ≠ 8) (h9 : f ≠ 9) : (nEndT N R t).1 f j = N.1 f j := by
  unfold nEndT
  rw [(dlf_facts R t _ _ _).2 f j h6 h10, nTell_ne _ _ _ _ _ _ _ _ h10, (dlv_facts R _ _).2.2 f j h6 h10 h8 h9]
def nEndAll (G : gT) (n s r i : Nat) : nT := nEndT (nsI (nGets (G.1 i) (G.2 r) (haveA G n s)) 7 0 (mxf G s n)) (G.2 r) s
theorem nEndAll_ne (G : gT) (n s r i : Nat) {f : Nat} (j : Nat) (h6 : f ≠ 6) (h7 : f ≠ 7) (h10 : f ≠ 10) (h8 : f ≠ 8) (h9 : f ≠ 9) (h1 : f ≠ 16) (h2 : f ≠ 14) (h3 : f ≠ 15) : (nEndAll G n s r i).1 f j = (G.1 i).1 f j := by
  unfold nEndAll
  rw [nEndT_ne _ _ _ _ h6 h10 h8 h9, n1_ne _ _ _ _ h7, nGets_ne _ _ _ _ h1 h2 h3]
theorem nEndAll_7 (G : gT) (n s r i : Nat) : (nEndAll G n s r i).1 7 0 = mxf G s n := by
  unfold nEndAll
  rw [nEndT_ne _ _ _ _ (by omega) (by omega) (by omega) (by omega), n1_eq]
def gEnd (G : gT) (n s r : Nat) : gT := (fun j => if j < n ∧ s.testBit j = true then nEndAll G n s r j else G.1 j, G.2)
theorem gShare_in (G : gT) {n s r i : Nat} (h : i < n) (h2 : s.testBit i = true) : (gShare G n s r).1 i = nsI (nGets (G.1 i) (G.2 r) (haveA G n s)) 7 0 (mxf G s n) := by
  show (if i < n ∧ s.testBit i = true then nsI ((gGets G n s r (haveA G n s)).1 i) 7 0 (mxf G s n) else _) = _
  rw [if_pos ⟨h, h2⟩, gGets_in G _ h h2]
theorem gEnd_eq (G : gT) (n s r : Nat) : ((fun j => if j < n ∧ s.testBit j = true then nEndT ((gShare G n s r).1 j) (G.2 r) s else (gShare G n s r).1 j, (gShare G n s r).2) : gT) = gEnd G n s r := by
  refine Prod.ext (funext fun j => ?_) rfl
  show (if j < n ∧ s.testBit j = true then nEndT ((gShare G n s r).1 j) (G.2 r) s else (gShare G n s r).1 j) = if j < n ∧ s.testBit j = true then nEndAll G n s r j else G.1 j
  by_cases c : j < n ∧ s.testBit j = true
  · rw [if_pos c, if_pos c, gShare_in G c.1 c.2]
    rfl
  · rw [if_neg c, if_neg c]
    show (if j < n ∧ s.testBit j = true then nsI ((gGets G n s r (haveA G n s)).1 j) 7 0 (mxf G s n) else (gGets G n s r (haveA G n s)).1 j) = _
    rw [if_neg c]
    show (if j < n ∧ s.testBit j = true then _ else G.1 j) = _
    rw [if_neg c]
/-- those of s whose rings D names have ended -/
def gEndD (G : gT) (n s : Nat) (D : Nat → Bool) : gT := (fun j => if j < n ∧ s.testBit j = true ∧ (G.1 j).1 2 0 ≠ 8 ∧ D ((G.1 j).1 2 0) = true then nEndAll G n (ofSet G n s ((G.1 j).1 2 0)) ((G.1 j).1 2 0) j else G.1 j, G.2)
theorem gEndD_ne (G : gT) (n s : Nat) (D : Nat → Bool) (i : Nat) {f : Nat} (j : Nat) (h6 : f ≠ 6) (h7 : f ≠ 7) (h10 : f ≠ 10) (h8 : f ≠ 8) (h9 : f ≠ 9) (h1 : f ≠ 16) (h2 : f ≠ 14) (h3 : f ≠ 15) : ((gEndD G n s D).1 i).1 f j = (G.1 i).1 f j := by
  show (if i < n ∧ s.testBit i = true ∧ (G.1 i).1 2 0 ≠ 8 ∧ D ((G.1 i).1 2 0) = true then nEndAll G n (ofSet G n s ((G.1 i).1 2 0)) ((G.1 i).1 2 0) i else G.1 i).1 f j = _
  split
  · exact nEndAll_ne _ _ _ _ _ _ h6 h7 h10 h8 h9 h1 h2 h3
  · rfl
theorem gEndD_out (G : gT) {n s : Nat} {D : Nat → Bool} {i : Nat} (h : D ((G.1 i).1 2 0) = false) : (gEndD G n s D).1 i = G.1 i := by
  show (if _ then _ else G.1 i) = _
  rw [if_neg (fun z => by rw [h] at z; exact absurd z.2.2.2 (by decide))]
theorem ofSet_bit (G : gT) (n s r i : Nat) : (ofSet G n s r).testBit i = true ↔ i < n ∧ (G.1 i).1 2 0 = r ∧ s.testBit i = true := by
  unfold ofSet
  rw [mk_bit, Bool.and_eq_true, decide_eq_true_iff, Bool.and_eq_true, decide_eq_true_iff]
theorem ofSet_congr {G G' : gT} {n : Nat} (s r : Nat) (h : ∀ j, j < n → (G'.1 j).1 2 0 = (G.1 j).1 2 0) : ofSet G' n s r = ofSet G n s r := by
  unfold ofSet
  exact mk_ext (fun j hj => by rw [h j hj])
theorem anyf_congr {G G' : gT} {s p : Nat} : ∀ {q : Nat}, (∀ j, j < q → s.testBit j = true → G'.1 j = G.1 j) → anyf G' s p q = anyf G s p q := by
  intro q
  induction q with
  | zero => intro _; rfl
  | succ q ih =>
    intro h
    unfold anyf
    rw [ih (fun j hj => h j (by omega))]
    by_cases c : s.testBit q = true
    · rw [h q (by omega) c]
    · have : s.testBit q = false := by simpa using c
      rw [this]; rfl
theorem mxf_congr {G G' : gT} {s : Nat} : ∀ {q : Nat}, (∀ j, j < q → s.testBit j = true → G'.1 j = G.1 j) → mxf G' s q = mxf G s q := by
  intro q
  induction q with
  | zero => intro _; rfl
  | succ q ih =>
    intro h
    unfold mxf
    rw [ih (fun j hj => h j (by omega))]
    by_cases c : s.testBit q = true
    · rw [h q (by omega) c]
    · rw [if_neg (fun z => c z.1), if_neg (fun z => c z.1)]
theorem nEndAll_congr {G G' : gT} {n s r i : Nat} (h : ∀ j, j < n → s.testBit j = true → G'.1 j = G.1 j) (hi : i < n) (his : s.testBit i = true) (hr : G'.2 r = G.2 r) : nEndAll G' n s r i = nEndAll G n s r i := by
  have e : haveA G' n s = haveA G n s := funext fun p => by
    unfold haveA
    rw [anyf_congr h]
  unfold nEndAll
  rw [e, h i hi his, hr, mxf_congr h]
theorem gEndD_step (G : gT) {n s r : Nat} {D : Nat → Bool} (hr : r ≠ 8) (hD : D r = false) : gEnd (gEndD G n s D) n (ofSet G n s r) r = gEndD G n s (fun x => D x || decide (x = r)) := by
  have hag : ∀ j, j < n → (ofSet G n s r).testBit j = true → (gEndD G n s D).1 j = G.1 j := fun j hj hb => by
    have h := (ofSet_bit G n s r j).mp hb
    exact gEndD_out G (by rw [h.2.1]; exact hD)
  refine Prod.ext (funext fun j => ?_) rfl
  show (if j < n ∧ (ofSet G n s r).testBit j = true then nEndAll (gEndD G n s D) n (ofSet G n s r) r j else (gEndD G n s D).1 j) = if j < n ∧ s.testBit j = true ∧ (G.1 j).1 2 0 ≠ 8 ∧ (D ((G.1 j).1 2 0) || decide ((G.1 j).1 2 0 = r)) = true then nEndAll G n (ofSet G n s ((G.1 j).1 2 0)) ((G.1 j).1 2 0) j else G.1 j
  by_cases c : j < n ∧ (ofSet G n s r).testBit j = true
  · have h := (ofSet_bit G n s r j).mp c.2
    rw [if_pos c, if_pos ⟨c.1, h.2.2, by rw [h.2.1]; exact hr, by simp [h.2.1]⟩, nEndAll_congr hag c.1 c.2 rfl, h.2.1]
  · rw [if_neg c]
    show (if j < n ∧ s.testBit j = true ∧ (G.1 j).1 2 0 ≠ 8 ∧ D ((G.1 j).1 2 0) = true then nEndAll G n (ofSet G n s ((G.1 j).1 2 0)) ((G.1 j).1 2 0) j else G.1 j) = _
    refine z_ifc2 ⟨fun z => ⟨z.1, z.2.1, z.2.2.1, by rw [z.2.2.2]; rfl⟩, fun z => ⟨z.1, z.2.1, z.2.2.1, ?_⟩⟩
    rcases (Bool.or_eq_true _ _).mp z.2.2.2 with e | e
    · exact e
    · exact absurd ⟨z.1, (ofSet_bit G n s r j).mpr ⟨z.1, decide_eq_true_iff.mp e, z.2.1⟩⟩ c
theorem gEndD_ext (G : gT) {n s : Nat} {D E : Nat → Bool} (h : ∀ j, j < n → s.testBit j = true → (G.1 j).1 2 0 ≠ 8 → D ((G.1 j).1 2 0) = E ((G.1 j).1 2 0)) : gEndD G n s D = gEndD G n s E := by
  refine Prod.ext (funext fun j => ?_) rfl
  show (if j < n ∧ s.testBit j = true ∧ (G.1 j).1 2 0 ≠ 8 ∧ D ((G.1 j).1 2 0) = true then _ else G.1 j) = if j < n ∧ s.testBit j = true ∧ (G.1 j).1 2 0 ≠ 8 ∧ E ((G.1 j).1 2 0) = true then _ else G.1 j
  refine z_ifc2 ⟨fun z => ⟨z.1, z.2.1, z.2.2.1, ?_⟩, fun z => ⟨z.1, z.2.1, z.2.2.1, ?_⟩⟩
  · rw [← h j z.1 z.2.1 z.2.2.1]; exact z.2.2.2
  · rw [h j z.1 z.2.1 z.2.2.1]; exact z.2.2.2
theorem gEndD_0 (G : gT) (n s : Nat) {D : Nat → Bool} (h : ∀ x, D x = false) : gEndD G n s D = G := by
  refine Prod.ext (funext fun j => ?_) rfl
  exact gEndD_out G (h _)
def gEnded (G : gT) (n s : Nat) : gT := gEndD G n s (fun _ => true)
/-- bounds that the end of rings wants -/
def eOk (n : Nat) (G : gT) : Prop := (∀ j, j < n → (G.1 j).1 4 0 < 2 ^ 30 ∧ (G.1 j).1 6 0 ≤ 100 ∧ (G.1 j).1 7 0 ≤ 100 ∧ (G.1 j).1 10 0 < 2 ^ 20 ∧ (G.1 j).1 8 0 < 2 ^ 20) ∧ ∀ j, j < n → (G.1 j).1 2 0 ≠ 8 → rOk (G.2 ((G.1 j).1 2 0))
section
variable {Z : zZ} {S0 S : zS} {ad : Nat → Nat → Nat} {n w : Nat} {G : gT} {i : Nat} {N : nT}
theorem c_endT (H : zCV Z S0 ad n w S (gN G i N)) (hi : i < n) {R : nT} (hR : G.2 (N.1 2 0) = R) (hok : rOk R) (h4 : N.1 4 0 < 2 ^ 30) (h6 : N.1 6 0 ≤ 100) (h7 : N.1 7 0 ≤ 100) (h10 : N.1 10 0 < 2 ^ 20) (h8 : N.1 8 0 < 2 ^ 20) {s : Nat} (hs : s < 2 ^ 30) {Qp : zS → Prop} (k : ∀ S', zCV Z S0 ad n w S' (gN G i (nEndT N R s)) → Qp S') : w_X2_deliverInTurn Z (ad 3 i) S (fun (v16 : Int32) (S15 : zS) => ∃ b17, zQ Z (ad 3 i) 3 = some b17 ∧ ∃ b19, zR S15 (ad 3 i) 7 = some b19 ∧ zk Z b19 5 ∧ zk Z b17 0 ∧ w_X0_add Z b17 2 (nI s) 0 0 0 (zI S15 b19 2) S15 (fun (S23 : zS) => w_X2_deliverLeft Z (ad 3 i) (nI s) S23 (fun (S24 : zS) => Qp S24))) := by
  obtain ⟨⟨d1, d2, d3, d4, d5⟩, -, -, ⟨f1, f2, -⟩, -⟩ := zCV_nd H hi
  refine c_dlv H hi hR hok h4 h6 h7 h10 h8 (fun S15 H15 => ?_)
  obtain ⟨a10, a8, aff⟩ := dlv_facts R (100 - N.1 6 0) N
  have a6 := dlv_6 R (100 - N.1 6 0) N (by omega) (by omega)
  have a2 := aff 2 0 (by omega) (by omega) (by omega) (by omega)
  generalize hD : dlv R (100 - N.1 6 0) N = D at *
  have hrg := cv_ring H15 hi
  have hri : zri n (N.1 2 0) := (cv_n H hi).2
  rw [a2] at hrg
  have g0 : zI S15 (ad 12 (N.1 2 0)) 2 = nI (R.1 0 0) := by rw [← hR]; exact (cv_R H15 hri).1.1
  have hr0 := hok.1
  refine ⟨ad 9 i, d4, ad 12 (N.1 2 0), hrg, (zCV_rg H hri).1, f1, ?_⟩
  rw [g0]
  refine c_add H15 hi (by omega) (fun S23 H23 => ?_)
  rw [nI_l (by omega), nI_l (by omega)] at H23
  have hN : nTell D (Int32.toInt64 2) (lN s) (Int32.toInt64 0) (Int32.toInt64 0) 0 (lN (R.1 0 0)) = nTell D (lN 2) (lN s) (lN 0) (lN 0) 0 (lN (R.1 0 0)) := rfl
  rw [hN] at H23
  refine c_dlf H23 hi (R := R) (by rw [nTell_ne _ _ _ _ _ _ _ _ (by omega), a2]; exact hR) hok (by rw [nTell_ne _ _ _ _ _ _ _ _ (by omega)]; exact a6.2) (by rw [nTell_10]; omega) (fun S24 H24 => k S24 ?_)
  rw [nTell_ne _ _ _ _ _ _ _ _ (by omega)] at H24
  unfold nEndT
  rw [hD]
  exact H24
theorem c_endRing {s r : Nat} (H : zCV Z S0 ad n w S G) (hs8 : s < 2 ^ 30) (hs : ∀ j, j < n → s.testBit j = true → (G.1 j).1 2 0 = r) (hok : rOk (G.2 r)) (h47 : ∀ j, j < n → (G.1 j).1 4 0 < 2 ^ 30 ∧ (G.1 j).1 7 0 ≤ 100) (hb : ∀ j, j < n → s.testBit j = true → (G.1 j).1 6 0 ≤ 100 ∧ (G.1 j).1 10 0 < 2 ^ 20 ∧ (G.1 j).1 8 0 < 2 ^ 20) {Qp : zS → Prop} (k : ∀ S', zCV Z S0 ad n w S' (gEnd G n s r) → Qp S') : w_X6_endRing Z (ad 0 0) (nI s) S Qp := by
  obtain ⟨r1, r2, r3, r4⟩ := cv_row H
  have hn := (zCV_n H).2
  unfold w_X6_endRing
  refine ⟨r1, c_share H hs hok (fun j hj => (h47 j hj).1) (fun j hj => by have := (h47 j hj).2; omega) (fun S2 H2 => ⟨ad 1 0, r2, r3, fun y6 e6 => ?_⟩)⟩
  rw [r4] at e6
  subst e6
  have hmx : mxf G s n ≤ 100 := mxf_le (fun j hj => (h47 j hj).2)
  have H0 : zCV Z S0 ad n w S2 (fun j => if j < 0 ∧ s.testBit j = true then nEndT ((gShare G n s r).1 j) (G.2 r) s else (gShare G n s r).1 j, (gShare G n s r).2) := by rw [gUpd_0]; exact H2
  refine zlp2 (fun y S' => ∃ q', q' ≤ n ∧ y = nI q' ∧ zCV Z S0 ad n w S' (fun j => if j < q' ∧ s.testBit j = true then nEndT ((gShare G n s r).1 j) (G.2 r) s else (gShare G n s r).1 j, (gShare G n s r).2)) (fun y _ => 9 - y.toNatClampNeg) (fun rec y S' hI hrec => ?_) _ S2 ⟨0, by omega, rfl, H0⟩
  obtain ⟨q', hq, rfl, H3⟩ := hI
  unfold wb_X6_endRing_16
  have hle : (nI n ≤ nI q') ↔ n ≤ q' := nI_leI (by omega) (by omega)
  rw [hle]
  refine ⟨fun z => ?_, fun z => ?_⟩
  · have : q' = n := by omega
    subst this
    refine k S' ?_
    rw [← gEnd_eq]
    exact H3
  · have hq2 : q' < n := by omega
    obtain ⟨v1, v2, v3⟩ := cv_at H3 hq2
    have c := (cv_g H3 hq2).1
    have hμ : 9 - (nI (q' + 1)).toNatClampNeg < 9 - (nI q').toNatClampNeg := by rw [nI_clamp (by omega), nI_clamp (by omega)]; omega
    rw [nI_1]
    refine ⟨r3, v1, ad 3 q', v2, v3, ?_⟩
    unfold w_X6_isIn
    rw [c.1, isc _ (by omega), bt_nI _ (by omega)]
    refine ⟨fun q3 => ⟨fun _ y e => ?_, fun z => absurd rfl z⟩, fun q3 => ⟨fun z => absurd z (by decide), fun _ => ?_⟩⟩
    · subst e
      refine hrec _ _ ⟨q' + 1, by omega, rfl, ?_⟩ hμ
      rw [gUpd_s0 _ _ q3]; exact H3
    · have q4 : s.testBit q' = true := by simpa using q3
      have H4 := cn_0 H3 (i := q')
      rw [gUpd_at, gShare_in G hq2 q4] at H4
      obtain ⟨b6, b10, b8⟩ := hb q' hq2 q4
      have b4 := (h47 q' hq2).1
      have eN : ∀ f, f ≠ 7 → f ≠ 16 → f ≠ 14 → f ≠ 15 → (nsI (nGets (G.1 q') (G.2 r) (haveA G n s)) 7 0 (mxf G s n)).1 f 0 = (G.1 q').1 f 0 := fun f a b c d => by
        rw [n1_ne _ _ _ _ a, nGets_ne _ _ _ _ b c d]
      refine c_endT H4 hq2 (R := G.2 r) ?_ hok ?_ ?_ ?_ ?_ ?_ hs8 (fun S24 H24 y e => ?_)
      · rw [eN 2 (by omega) (by omega) (by omega) (by omega), hs q' hq2 q4]; rfl
      · rw [eN 4 (by omega) (by omega) (by omega) (by omega)]; exact b4
      · rw [eN 6 (by omega) (by omega) (by omega) (by omega)]; exact b6
      · rw [n1_eq]; exact hmx
      · rw [eN 10 (by omega) (by omega) (by omega) (by omega)]; exact b10
      · rw [eN 8 (by omega) (by omega) (by omega) (by omega)]; exact b8
      · subst e
        refine hrec _ _ ⟨q' + 1, by omega, rfl, ?_⟩ hμ
        rw [gUpd_s1 _ _ q4, gShare_in G hq2 q4]; exact H24
theorem c_endOld {s : Nat} (H : zCV Z S0 ad n w S G) (hs8 : s < 256) (he : eOk n G) {Qp : zS → Prop} (k : ∀ S', zCV Z S0 ad n w S' (gEnded G n s) → Qp S') : w_X6_endOldRings Z (ad 0 0) (nI s) S Qp := by
  obtain ⟨r1, r2, r3, r4⟩ := cv_row H
  have hn := (zCV_n H).2
  have q3' : zQ Z (ad 0 0) 3 = some (ad 12 8) := H.1.1.2.2.2
  unfold w_X6_endOldRings
  refine ⟨r1, ad 1 0, r2, r3, fun y5 e5 => ?_⟩
  rw [r4] at e5
  subst e5
  have H0 : zCV Z S0 ad n w S (gEndD G n s (fun x => decide (ls (ofSet G n s x) < 0))) := by
    rw [gEndD_0 _ _ _ (fun x => decide_eq_false (by omega))]; exact H
  refine zlp2 (fun y S' => ∃ q', q' ≤ n ∧ y = nI q' ∧ zCV Z S0 ad n w S' (gEndD G n s (fun x => decide (ls (ofSet G n s x) < q')))) (fun y _ => 9 - y.toNatClampNeg) (fun rec y S' hI hrec => ?_) _ S ⟨0, by omega, rfl, H0⟩
  obtain ⟨q', hq, rfl, H3⟩ := hI
  unfold wb_X6_endOldRings_11
  have hle : (nI n ≤ nI q') ↔ n ≤ q' := nI_leI (by omega) (by omega)
  rw [hle]
  refine ⟨fun z => ?_, fun z => ?_⟩
  · have : q' = n := by omega
    subst this
    refine k S' ?_
    unfold gEnded
    rw [gEndD_ext G (E := fun x => decide (ls (ofSet G q' s x) < q')) (fun j hj hjs hj8 => ?_)]
    · exact H3
    · refine (decide_eq_true ?_).symm
      have hb : (ofSet G q' s ((G.1 j).1 2 0)).testBit j = true := (ofSet_bit _ _ _ _ _).mpr ⟨hj, rfl, hjs⟩
      refine Nat.lt_of_not_le (fun h => ?_)
      rw [ls_low (by omega)] at hb
      exact Bool.noConfusion hb
  · have hq2 : q' < n := by omega
    obtain ⟨v1, v2, v3⟩ := cv_at H3 hq2
    have c := cv_g H3 hq2
    have hμ : 9 - (nI (q' + 1)).toNatClampNeg < 9 - (nI q').toNatClampNeg := by rw [nI_clamp (by omega), nI_clamp (by omega)]; omega
    have e2 : ((gEndD G n s (fun x => decide (ls (ofSet G n s x) < q'))).1 q').1 2 0 = (G.1 q').1 2 0 := gEndD_ne _ _ _ _ _ _ (by omega) (by omega) (by omega) (by omega) (by omega) (by omega) (by omega) (by omega)
    have hrg := c.2.1
    unfold cnR at hrg
    rw [e2] at hrg
    have e8 : (some (ad 12 ((G.1 q').1 2 0)) = some (ad 12 8)) ↔ (G.1 q').1 2 0 = 8 := ⟨fun q => ((zCV_inj H).mp (Option.some.inj q)).2, fun q => by rw [q]⟩
    have hof : ∀ r, ofSet (gEndD G n s (fun x => decide (ls (ofSet G n s x) < q'))) n s r = ofSet G n s r := fun r => ofSet_congr s r (fun j _ => gEndD_ne _ _ _ _ _ _ (by omega) (by omega) (by omega) (by omega) (by omega) (by omega) (by omega) (by omega))
    -- nothing to end at q'
    have hskip : (¬ (s.testBit q' = true ∧ (G.1 q').1 2 0 ≠ 8 ∧ ls (ofSet G n s ((G.1 q').1 2 0)) = q')) → rec (nI (q' + 1)) S' := fun hno => by
      refine hrec _ _ ⟨q' + 1, by omega, rfl, ?_⟩ hμ
      rw [gEndD_ext G (E := fun x => decide (ls (ofSet G n s x) < q')) (fun j hj hjs hj8 => ?_)]
      · exact H3
      · have hne : ls (ofSet G n s ((G.1 j).1 2 0)) ≠ q' := fun e => by
          have hb := ls_bit (s := ofSet G n s ((G.1 j).1 2 0)) (by omega)
          rw [e, ofSet_bit] at hb
          exact hno ⟨hb.2.2, by rw [hb.2.1]; exact hj8, by rw [hb.2.1]; exact e⟩
        by_cases h : ls (ofSet G n s ((G.1 j).1 2 0)) < q'
        · rw [decide_eq_true h, decide_eq_true (by omega)]
        · rw [decide_eq_false h, decide_eq_false (by omega)]
    rw [nI_1]
    refine ⟨r3, v1, ad 3 q', v2, v3, ad 12 ((G.1 q').1 2 0), hrg, r1, ad 12 8, q3', ?_⟩
    rw [e8]
    refine ⟨fun q4 y e => e ▸ hskip (fun z => z.2.1 q4), fun q4 => ?_⟩
    unfold w_X6_isIn
    rw [c.1.1, isc _ (by omega), bt_nI _ (by omega)]
    refine ⟨fun q3 => ⟨fun _ y e => e ▸ hskip (fun z => by rw [q3] at z; exact absurd z.1 (by decide)), fun z => absurd rfl z⟩, fun q3 => ⟨fun z => absurd z (by decide), fun _ => ⟨ad 12 ((G.1 q').1 2 0), hrg, c_ofRing H3 ?_⟩⟩⟩
    have q5 : s.testBit q' = true := by simpa using q3
    rw [hof]
    have hlt : ofSet G n s ((G.1 q').1 2 0) < 256 := mk_lt8 _ hn
    have hb : (ofSet G n s ((G.1 q').1 2 0)).testBit q' = true := (ofSet_bit _ _ _ _ _).mpr ⟨hq2, rfl, q5⟩
    have hls : ls (ofSet G n s ((G.1 q').1 2 0)) ≤ q' := Nat.le_of_not_lt (fun h => by rw [ls_low h] at hb; exact Bool.noConfusion hb)
    refine c_leastOf (fun h => absurd h (by omega)) (fun _ => ?_)
    rw [c.1.1]
    have e9 : (nI (ls (ofSet G n s ((G.1 q').1 2 0))) = nI q') ↔ ls (ofSet G n s ((G.1 q').1 2 0)) = q' := nI_eq (by omega) (by omega)
    rw [e9]
    refine ⟨fun q6 y e => e ▸ hskip (fun z => q6 z.2.2), fun q6 => ?_⟩
    have hfx : ∀ j, j < n → ((gEndD G n s (fun x => decide (ls (ofSet G n s x) < q'))).1 j).1 4 0 < 2 ^ 30 ∧ ((gEndD G n s (fun x => decide (ls (ofSet G n s x) < q'))).1 j).1 7 0 ≤ 100 := fun j hj => by
      have b := he.1 j hj
      refine ⟨by rw [gEndD_ne _ _ _ _ _ _ (by omega) (by omega) (by omega) (by omega) (by omega) (by omega) (by omega) (by omega)]; exact b.1, ?_⟩
      show (if j < n ∧ s.testBit j = true ∧ (G.1 j).1 2 0 ≠ 8 ∧ _ then nEndAll G n (ofSet G n s ((G.1 j).1 2 0)) ((G.1 j).1 2 0) j else G.1 j).1 7 0 ≤ 100
      split
      · rw [nEndAll_7]
        exact mxf_le (fun j hj => (he.1 j hj).2.2.1)
      · exact b.2.2.1
    refine c_endRing H3 (r := (G.1 q').1 2 0) (by omega) (fun j hj hjb => ?_) (he.2 q' hq2 q4) hfx (fun j hj hjb => ?_) (fun S27 H27 y e => ?_)
    · rw [gEndD_ne _ _ _ _ _ _ (by omega) (by omega) (by omega) (by omega) (by omega) (by omega) (by omega) (by omega)]
      exact ((ofSet_bit _ _ _ _ _).mp hjb).2.1
    · have h := (ofSet_bit _ _ _ _ _).mp hjb
      rw [gEndD_out G (by rw [h.2.1]; exact decide_eq_false (by omega))]
      have b := he.1 j hj
      exact ⟨b.2.1, b.2.2.2.1, b.2.2.2.2⟩
    · subst e
      rw [gEndD_step G q4 (decide_eq_false (by omega))] at H27
      refine hrec _ _ ⟨q' + 1, by omega, rfl, ?_⟩ hμ
      rw [gEndD_ext G (E := fun x => decide (ls (ofSet G n s x) < q') || decide (x = (G.1 q').1 2 0)) (fun j hj hjs hj8 => ?_)]
      · exact H27
      · by_cases h : ls (ofSet G n s ((G.1 j).1 2 0)) < q'
        · rw [decide_eq_true h, decide_eq_true (by omega)]; rfl
        · rw [decide_eq_false h]
          by_cases h2 : (G.1 j).1 2 0 = (G.1 q').1 2 0
          · rw [decide_eq_true h2, h2, decide_eq_true (by omega)]; rfl
          · rw [decide_eq_false h2, decide_eq_false]
            · rfl
            · intro h3
              have e : ls (ofSet G n s ((G.1 j).1 2 0)) = q' := by omega
              have hb := ls_bit (s := ofSet G n s ((G.1 j).1 2 0)) (by omega)
              rw [e, ofSet_bit] at hb
              exact h2 hb.2.1.symm
end
