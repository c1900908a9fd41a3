/-! what is kept by one of a set; tables brought up to date -/
def kcond (G : gT) (s v p k : Nat) : Bool := s.testBit k && (decide ((G.1 k).1 4 0 = v) && decide ((G.1 k).1 14 p ≠ 0))
def kpf (G : gT) (n s v p : Nat) : Nat → Option (Nat × Int64)
  | 0 => none
  | k + 1 => if kcond G s v p (n - (k + 1)) then some ((G.1 (n - (k + 1))).1 15 p, (G.1 (n - (k + 1))).2 14 p) else kpf G n s v p k
def keptOf (G : gT) (n s v p : Nat) : Option (Nat × Int64) := kpf G n s v p n
theorem kpf_none {G : gT} {n s v p : Nat} (h : ∀ j, j < n → kcond G s v p j = false) : ∀ k, k ≤ n → kpf G n s v p k = none := by
  intro k
  induction k with
  | zero => intro _; rfl
  | succ k ih =>
    intro hk
    unfold kpf
    rw [h _ (by omega)]
    exact ih (by omega)
theorem kpf_some {G : gT} {n s v p : Nat} {y : Nat × Int64} (h : ∀ j, j < n → kcond G s v p j = true → ((G.1 j).1 15 p, (G.1 j).2 14 p) = y) {j : Nat} (hj : j < n) (hc : kcond G s v p j = true) : ∀ k, k ≤ n → n - k ≤ j → kpf G n s v p k = some y := by
  intro k
  induction k with
  | zero => intro _ hk; omega
  | succ k ih =>
    intro hk hkj
    unfold kpf
    by_cases c : kcond G s v p (n - (k + 1)) = true
    · rw [if_pos c, h _ (by omega) c]
    · rw [if_neg c]
      refine ih (by omega) ?_
      have : j ≠ n - (k + 1) := fun e => c (e ▸ hc)
      omega
theorem kpf_congr {G G' : gT} {n s v p : Nat} (h : ∀ j, j < n → (G'.1 j).1 4 0 = (G.1 j).1 4 0 ∧ (G'.1 j).1 14 p = (G.1 j).1 14 p ∧ (G'.1 j).1 15 p = (G.1 j).1 15 p ∧ (G'.1 j).2 14 p = (G.1 j).2 14 p) : ∀ k, k ≤ n → kpf G' n s v p k = kpf G n s v p k := by
  intro k
  induction k with
  | zero => intro _; rfl
  | succ k ih =>
    intro hk
    obtain ⟨a, b, c, d⟩ := h (n - (k + 1)) (by omega)
    unfold kpf kcond
    rw [a, b, c, d, ih (by omega)]
def upd2 (K : Nat → Option (Nat × Int64)) : Nat → nT → nT
  | 0, B => B
  | k + 1, B => upd2 K k (match K (100 - k) with | some x => nApply B (100 - k) x.1 x.2 | none => B)
theorem nApply_j (N : nT) (p key : Nat) (v : Int64) {f : Nat} (j : Nat) (h0 : f ≠ 0) (h1 : f ≠ 1) : (nApply N p key v).2 f j = N.2 f j := by
  unfold nApply
  rw [n2_sI, n2_ne _ _ _ _ h0, n2_sI, n2_ne _ _ _ _ h1]
theorem upd2_facts (K : Nat → Option (Nat × Int64)) : ∀ (k : Nat) (B : nT), (upd2 K k B).1 8 0 ≤ B.1 8 0 + k ∧ (∀ f j, f ≠ 8 → f ≠ 9 → (upd2 K k B).1 f j = B.1 f j) ∧ ∀ f j, f ≠ 0 → f ≠ 1 → (upd2 K k B).2 f j = B.2 f j := by
  intro k
  induction k with
  | zero => intro B; exact ⟨Nat.le_refl _, fun _ _ _ _ => rfl, fun _ _ _ _ => rfl⟩
  | succ k ih =>
    intro B
    unfold upd2
    cases hK : K (100 - k) with
    | none =>
      obtain ⟨a, b, c⟩ := ih B
      exact ⟨Nat.le_trans a (by omega), b, c⟩
    | some x =>
      obtain ⟨a, b, c⟩ := ih (nApply B (100 - k) x.1 x.2)
      rw [nApply_8] at a
      exact ⟨Nat.le_trans a (by omega), fun f j h1 h2 => (b f j h1 h2).trans (nApply_ne _ _ _ _ _ h1 h2), fun f j h1 h2 => (c f j h1 h2).trans (nApply_j _ _ _ _ _ h1 h2)⟩
theorem nCopyF_self (N : nT) : nCopyF N N = N := by
  unfold nCopyF
  have e : nCopy N N 16 = N := by
    refine Prod.ext rfl (funext fun x => funext fun j => ?_)
    show (if x = 1 ∧ j < 16 then N.2 1 j else N.2 x j) = N.2 x j
    split
    · rename_i h; rw [h.1]
    · rfl
  rw [e, nsI_self, nsJ_self]
def gCopy (G : gT) (s : Nat) (B : nT) (q : Nat) : gT := (fun j => if j < q ∧ s.testBit j = true then nCopyF (G.1 j) B else G.1 j, G.2)
theorem gCopy_0 (G : gT) (s : Nat) (B : nT) : gCopy G s B 0 = G := by
  refine Prod.ext (funext fun j => ?_) rfl
  show (if j < 0 ∧ s.testBit j = true then nCopyF (G.1 j) B else G.1 j) = _
  rw [if_neg (fun q => by omega)]
theorem gCopy_s0 (G : gT) {s : Nat} (B : nT) {q : Nat} (h : s.testBit q = false) : gCopy G s B (q + 1) = gCopy G s B q := by
  refine Prod.ext (funext fun j => ?_) rfl
  show (if j < q + 1 ∧ s.testBit j = true then nCopyF (G.1 j) B else G.1 j) = if j < q ∧ s.testBit j = true then nCopyF (G.1 j) B else G.1 j
  by_cases e : j = q
  · subst e
    rw [if_neg (fun z => by rw [h] at z; exact absurd z.2 (by decide)), if_neg (fun z => by omega)]
  · exact z_ifc2 ⟨fun z => ⟨by omega, z.2⟩, fun z => ⟨by omega, z.2⟩⟩
theorem gCopy_s1 (G : gT) {s : Nat} (B : nT) {q : Nat} (h : s.testBit q = true) : gCopy G s B (q + 1) = gN (gCopy G s B q) q (nCopyF (G.1 q) B) := by
  refine Prod.ext (funext fun j => ?_) rfl
  show (if j < q + 1 ∧ s.testBit j = true then nCopyF (G.1 j) B else G.1 j) = if j = q then nCopyF (G.1 q) B else if j < q ∧ s.testBit j = true then nCopyF (G.1 j) B else G.1 j
  by_cases e : j = q
  · subst e
    rw [if_pos ⟨by omega, h⟩, if_pos rfl]
  · rw [if_neg e]
    exact z_ifc2 ⟨fun z => ⟨by omega, z.2⟩, fun z => ⟨by omega, z.2⟩⟩
/-- the table of the foremost, b, brought up to date, and copied to all of s -/
def gTab (G : gT) (n s b : Nat) : gT := gCopy (gN G b (upd2 (keptOf G n s ((G.1 b).1 4 0)) (100 - (G.1 b).1 9 0) (G.1 b))) s (upd2 (keptOf G n s ((G.1 b).1 4 0)) (100 - (G.1 b).1 9 0) (G.1 b)) n
section
variable {Z : zZ} {S0 S : zS} {ad : Nat → Nat → Nat} {n w : Nat} {G : gT} {i : Nat} {N : nT}
theorem c_kept (H : zCV Z S0 ad n w S G) {s v p : Nat} (hp : p < 101) (hv : v < 2 ^ 30) (b : ∀ j, j < n → (G.1 j).1 4 0 < 2 ^ 30) {Qp : Option Nat → zS → Prop} (k0 : keptOf G n s v p = none → Qp none S) (k1 : ∀ b x, keptOf G n s v p = some x → zMk1 Z S b x.1 x.2 → Qp (some b) S) : w_X6_keptByOne Z (ad 0 0) (nI s) (nI v) (nI p) S Qp := by
  obtain ⟨r1, r2, r3, r4⟩ := cv_row H
  have hn := (zCV_n H).2
  unfold w_X6_keptByOne
  refine ⟨r1, ad 1 0, r2, r3, fun y5 e5 => ?_⟩
  rw [r4] at e5
  subst e5
  refine zlp2 (fun x S' => S' = S ∧ ∃ k', k' ≤ n ∧ x = nI (n - k') ∧ kpf G n s v p k' = keptOf G n s v p) (fun x _ => 9 - x.toNatClampNeg) (fun rec x S' hI hrec => ?_) _ S ⟨rfl, n, by omega, by rw [Nat.sub_self]; rfl, rfl⟩
  obtain ⟨rfl, k', hk, rfl, hf⟩ := hI
  unfold wb_X6_keptByOne_14
  have hle : (nI n ≤ nI (n - k')) ↔ n ≤ n - k' := nI_leI (by omega) (by omega)
  rw [hle]
  refine ⟨fun q => ?_, fun q => ?_⟩
  · have : k' = 0 := by omega
    subst this
    exact k0 hf.symm
  · obtain ⟨j, rfl⟩ : ∃ j, k' = j + 1 := ⟨k' - 1, by omega⟩
    generalize hm : n - (j + 1) = m at *
    have hmn : m < n := by omega
    obtain ⟨v1, v2, v3⟩ := cv_at H hmn
    have cc := cv_g H hmn
    obtain ⟨-, -, ⟨f1, f2, f3, f4, f5, f6, f7⟩, -, -⟩ := zCV_nd H hmn
    have d3 := (zCV_nd H hmn).1.2.2.1
    have hμ : 9 - (nI (m + 1)).toNatClampNeg < 9 - (nI m).toNatClampNeg := by rw [nI_clamp (by omega), nI_clamp (by omega)]; omega
    have i4 : zI S' (ad 3 m) 9 = nI ((G.1 m).1 4 0) := cc.1.2 4 (by omega) (by omega)
    have e4 : (nI ((G.1 m).1 4 0) = nI v) ↔ (G.1 m).1 4 0 = v := nI_eq (by have := b m hmn; omega) (by omega)
    have hd : kpf G n s v p (j + 1) = if kcond G s v p m then some ((G.1 m).1 15 p, (G.1 m).2 14 p) else kpf G n s v p j := by
      show (if kcond G s v p (n - (j + 1)) then some ((G.1 (n - (j + 1))).1 15 p, (G.1 (n - (j + 1))).2 14 p) else kpf G n s v p j) = _
      rw [hm]
    have hno : kcond G s v p m = false → rec (nI (m + 1)) S' := fun hc => by
      rw [hc, if_neg (by decide)] at hd
      exact hrec _ _ ⟨rfl, j, by omega, by congr 1; omega, hd.symm.trans hf⟩ hμ
    have h := cc.2.2.2.2.1 p hp
    rw [nI_1, nI_clamp (n := p) (by omega)]
    refine ⟨r3, v1, ad 3 m, v2, v3, ?_⟩
    unfold w_X6_isIn
    rw [cc.1.1, isc _ (by omega), bt_nI _ (by omega)]
    refine ⟨fun q3 => ⟨fun _ y e => e ▸ hno ?_, fun z => absurd rfl z⟩, fun q3 => ⟨fun z => absurd z (by decide), fun _ => ?_⟩⟩
    rotate_left
    rw [i4, e4]
    refine ⟨fun q4 y e => e ▸ hno ?_, fun q4 => ⟨ad 6 m, d3, f1, ad 8 m, f3, f6, by rw [f7]; exact vp_in_nI hp (by omega), fun q5 y e => e ▸ hno ?_, fun b22 q5 => ?_⟩⟩
    rotate_left 3
    · unfold kcond; rw [q3]; rfl
    · unfold kcond; rw [decide_eq_false q4]; simp
    · have h0 : (G.1 m).1 14 p = 0 := by
        by_cases e : (G.1 m).1 14 p = 0
        · exact e
        · obtain ⟨b, b1, -⟩ := h.2 e
          rw [q5] at b1
          exact absurd b1 (by simp)
      unfold kcond; simp [h0]
    · have h0 : (G.1 m).1 14 p ≠ 0 := fun e => by
        rw [h.1 e] at q5
        exact absurd q5 (by simp)
      obtain ⟨b', b1, mk⟩ := h.2 h0
      have hc : kcond G s v p m = true := by
        unfold kcond
        have q3 : s.testBit m = true := by simpa using q3
        simp [q3, q4, h0]
      rw [hc, if_pos rfl] at hd
      rw [b1]
      exact k1 b' _ (hf.symm.trans hd) mk
theorem c_tab (H : zCV Z S0 ad n w S G) {s b : Nat} (hb : b < n) (h4 : ∀ j, j < n → (G.1 j).1 4 0 < 2 ^ 30) (h8 : (G.1 b).1 8 0 < 2 ^ 20) (h9 : (G.1 b).1 9 0 ≤ 100) (hk : ∀ p x, p < 101 → keptOf G n s ((G.1 b).1 4 0) p = some x → x.1 < 16) {Qp : zS → Prop} (k : ∀ S', zCV Z S0 ad n w S' (gTab G n s b) → Qp S') : w_X6_bringTablesUpToDate Z (ad 0 0) (ad 3 b) (nI s) S Qp := by
  obtain ⟨r1, r2, r3, r4⟩ := cv_row H
  have hn := (zCV_n H).2
  obtain ⟨⟨d1, d2, d3, d4, d5⟩, -, ⟨f1, f2, f3, f4, f5, f6, f7⟩, -, -⟩ := zCV_nd H hb
  have i9 : zI S (ad 6 b) 4 = nI ((G.1 b).1 9 0) := (cv_g H hb).1.2 9 (by omega) (by omega)
  unfold w_X6_bringTablesUpToDate
  refine ⟨d1, ad 6 b, d3, f1, fun y5 e5 => ?_⟩
  rw [i9, nI_1] at e5
  subst e5
  unfold gTab at k
  generalize hK : keptOf G n s ((G.1 b).1 4 0) = K at k hk
  have hfin := upd2_facts K (100 - (G.1 b).1 9 0) (G.1 b)
  generalize hB : upd2 K (100 - (G.1 b).1 9 0) (G.1 b) = B at k hfin
  have H0 : zCV Z S0 ad n w S (gN G b (G.1 b)) := cn_0 H
  refine zlp2 (fun x S' => ∃ k' B', k' ≤ 100 ∧ x = nI (101 - k') ∧ zCV Z S0 ad n w S' (gN G b B') ∧ upd2 K k' B' = B ∧ B'.1 8 0 + k' < 2 ^ 21 ∧ (∀ f j, f ≠ 8 → f ≠ 9 → B'.1 f j = (G.1 b).1 f j) ∧ ∀ f j, f ≠ 0 → f ≠ 1 → B'.2 f j = (G.1 b).2 f j) (fun x _ => 102 - x.toNatClampNeg) (fun rec x S' hI hrec => ?_) _ S ⟨100 - (G.1 b).1 9 0, G.1 b, by omega, by congr 1; omega, H0, hB, by omega, fun _ _ _ _ => rfl, fun _ _ _ _ => rfl⟩
  obtain ⟨k', B', hk', rfl, H', hd, g8, gf, gj⟩ := hI
  unfold wb_X6_bringTablesUpToDate_10
  have hle : (100 : Int32) < nI (101 - k') ↔ 100 < 101 - k' := nI_ltI (a := 100) (by omega) (by omega)
  rw [hle]
  refine ⟨fun q => ⟨r1, ad 1 0, r2, r3, fun y25 e25 => ?_⟩, fun q => ?_⟩
  · have : k' = 0 := by omega
    subst this
    have hd : B' = B := hd
    subst hd
    rw [r4] at e25
    subst e25
    have H1 : zCV Z S0 ad n w S' (gCopy (gN G b B') s B' 0) := by rw [gCopy_0]; exact H'
    refine zlp2 (fun y S' => ∃ k', k' ≤ n ∧ y = nI k' ∧ zCV Z S0 ad n w S' (gCopy (gN G b B') s B' k')) (fun y _ => 9 - y.toNatClampNeg) (fun rec y S' hI hrec => ?_) _ S' ⟨0, by omega, rfl, H1⟩
    obtain ⟨k', hk, rfl, H'⟩ := hI
    unfold wb_X6_bringTablesUpToDate_61
    have hle : (nI n ≤ nI k') ↔ n ≤ k' := nI_leI (by omega) (by omega)
    rw [hle]
    refine ⟨fun q => ?_, fun q => ?_⟩
    · have : k' = n := by omega
      subst this
      exact k S' H'
    · obtain ⟨v1, v2, v3⟩ := cv_at H' (k := k') (by omega)
      have c := (cv_g H' (j := k') (by omega)).1
      have hμ : 9 - (nI (k' + 1)).toNatClampNeg < 9 - (nI k').toNatClampNeg := by rw [nI_clamp (by omega), nI_clamp (by omega)]; omega
      have hkk : k' < n := by omega
      have d3' := (zCV_nd H hkk).1.2.2.1
      have f1' := (zCV_nd H hkk).2.2.1.1
      rw [nI_1]
      refine ⟨r3, v1, ad 3 k', v2, v3, ?_⟩
      unfold w_X6_isIn
      rw [c.1, isc _ (by omega), bt_nI _ (by omega)]
      refine ⟨fun q3 => ⟨fun _ y e => ?_, fun z => absurd rfl z⟩, fun q3 => ⟨fun z => absurd z (by decide), fun _ => ⟨ad 6 k', d3', d1, ad 6 b, d3, f1', ?_⟩⟩⟩
      · subst e
        exact hrec _ _ ⟨k' + 1, by omega, rfl, by rw [gCopy_s0 _ _ q3]; exact H'⟩ hμ
      · have q4 : s.testBit k' = true := by simpa using q3
        have eG : (gCopy (gN G b B') s B' k').1 k' = (gN G b B').1 k' := by
          show (if k' < k' ∧ s.testBit k' = true then _ else _) = _
          rw [if_neg (fun z => by omega)]
        have eb : (gCopy (gN G b B') s B' k').1 b = B' := by
          show (if b < k' ∧ s.testBit b = true then nCopyF ((gN G b B').1 b) B' else (gN G b B').1 b) = _
          rw [g1_Ns, nCopyF_self]
          split <;> rfl
        have H2 := cn_0 H' (i := k')
        rw [eG] at H2
        refine c_copy H2 hkk hb (M := B') ?_ (fun S'' H'' y e => ?_)
        · by_cases e : b = k'
          · rw [if_pos e, ← e, g1_Ns]
          · rw [if_neg e, eb]
        · subst e
          exact hrec _ _ ⟨k' + 1, by omega, rfl, by rw [gCopy_s1 _ _ q4]; exact H''⟩ hμ
  · obtain ⟨j, rfl⟩ : ∃ j, k' = j + 1 := ⟨k' - 1, by omega⟩
    have e3 : 101 - (j + 1) = 100 - j := by omega
    have hx : nI (100 - j) + 1 = nI (101 - j) := by rw [nI_1]; congr 1; omega
    have hμ : 102 - (nI (101 - j)).toNatClampNeg < 102 - (nI (101 - (j + 1))).toNatClampNeg := by rw [nI_clamp (by omega), nI_clamp (by omega)]; omega
    have i4 : zI S' (ad 3 b) 9 = nI ((G.1 b).1 4 0) := (cv_I H' hb 4 (by omega) (by omega)).trans (by rw [gf _ _ (by omega) (by omega)])
    have hcg : keptOf (gN G b B') n s ((G.1 b).1 4 0) (100 - j) = K (100 - j) := by
      rw [← hK]
      refine kpf_congr (fun m hm => ?_) n (by omega)
      rw [g1_N]
      by_cases e : m = b
      · rw [if_pos e, e]
        exact ⟨gf _ _ (by omega) (by omega), gf _ _ (by omega) (by omega), gf _ _ (by omega) (by omega), gj _ _ (by omega) (by omega)⟩
      · rw [if_neg e]; exact ⟨rfl, rfl, rfl, rfl⟩
    have h4' : ∀ m, m < n → ((gN G b B').1 m).1 4 0 < 2 ^ 30 := fun m hm => by
      rw [g1_N]
      by_cases e : m = b
      · rw [if_pos e, gf _ _ (by omega) (by omega)]; exact h4 b hb
      · rw [if_neg e]; exact h4 m hm
    rw [e3, hx, i4]
    refine ⟨d1, r1, c_kept H' (by omega) (h4 b hb) h4' (fun hn => ⟨fun _ y e => ?_, fun b' z => absurd z (by simp)⟩) (fun bm x hx2 hm => ⟨fun z => absurd z (by simp), fun b' z => ⟨ad 6 b, d3, f1, ?_⟩⟩)⟩
    · subst e
      rw [hcg] at hn
      refine hrec _ _ ⟨j, B', by omega, rfl, H', ?_, by omega, gf, gj⟩ hμ
      rw [← hd]
      show _ = upd2 K j (match K (100 - j) with | some x => nApply B' (100 - j) x.1 x.2 | none => B')
      rw [hn]
    · have : b' = bm := (Option.some.inj z).symm
      subst this
      rw [hcg] at hx2
      refine c_apply H' hb (hk _ _ (by omega) hx2) (by omega) hm (fun S'' H'' y e => ?_)
      subst e
      refine hrec _ _ ⟨j, _, by omega, rfl, H'', ?_, ?_, fun f q a b => ?_, fun f q a b => ?_⟩ hμ
      · rw [← hd]
        show _ = upd2 K j (match K (100 - j) with | some x => nApply B' (100 - j) x.1 x.2 | none => B')
        rw [hx2]
      · rw [nApply_8]; omega
      · rw [nApply_ne _ _ _ _ _ a b]; exact gf f q a b
      · rw [nApply_j _ _ _ _ _ a b]; exact gj f q a b
end
