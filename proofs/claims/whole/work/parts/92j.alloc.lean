/-! the class's cells in a heap that has grown -/
def zZe (Z Z' : zZ) : Prop := ∀ a k, zk Z a k → zk Z' a k ∧ zN Z' a = zN Z a ∧ ∀ j, zQ Z' a j = zQ Z a j
theorem zZe_rf (Z : zZ) : zZe Z Z := fun _ _ h => ⟨h, rfl, fun _ => rfl⟩
theorem zZe_tr {Z Z' Z'' : zZ} (h : zZe Z Z') (h' : zZe Z' Z'') : zZe Z Z'' := fun a k hk => ⟨(h' a k (h a k hk).1).1, ((h' a k (h a k hk).1).2.1).trans (h a k hk).2.1, fun j => ((h' a k (h a k hk).1).2.2 j).trans ((h a k hk).2.2 j)⟩
theorem zk_ne {Z : zZ} {a b k : Nat} (h : zk Z a k) (hb : b ∉ zL Z) : a ≠ b := fun e => hb (e ▸ h.1)
theorem zZe_al {Z : zZ} {b : Nat} (hb : b ∉ zL Z) (k n : Nat) : zZe Z (zalZ Z b k n) := fun a k' h => by
  have hne := zk_ne h hb
  refine ⟨⟨List.mem_append_left _ h.1, (va_up_ne _ _ hne).trans h.2⟩, va_up_ne _ _ hne, fun j => congrFun (va_up_ne _ _ hne) j⟩
theorem lst_bd : ∀ L : List Nat, ∃ M, ∀ a, a ∈ L → a < M := by
  intro L
  induction L with
  | nil => exact ⟨0, fun a h => absurd h (List.not_mem_nil)⟩
  | cons x L ih =>
    obtain ⟨M, hM⟩ := ih
    refine ⟨max M (x + 1), fun a h => ?_⟩
    rcases List.mem_cons.mp h with e | e
    · omega
    · have := hM a e; omega
/-- the pairs that stand for a cell -/
def usdb (n t i : Nat) : Bool := (decide (t < 3) && decide (i = 0)) || ((decide (3 ≤ t) && (decide (t < 12) && decide (i < n))) || (decide (12 ≤ t) && (decide (t < 15) && (decide (i < n) || decide (i = 8)))))
theorem usdb_iff {n t i : Nat} : usdb n t i = true ↔ (t < 3 ∧ i = 0) ∨ (3 ≤ t ∧ t < 12 ∧ i < n) ∨ (12 ≤ t ∧ t < 15 ∧ zri n i) := by
  unfold usdb zri
  simp only [Bool.or_eq_true, Bool.and_eq_true, decide_eq_true_iff]
/-- the class's cells, but for what their addresses are -/
def zSh (Z : zZ) (ad : Nat → Nat → Nat) (n : Nat) : Prop :=
  (zk Z (ad 0 0) 6 ∧ zQ Z (ad 0 0) 1 = some (ad 1 0) ∧ zQ Z (ad 0 0) 2 = some (ad 2 0) ∧ zQ Z (ad 0 0) 3 = some (ad 12 8)) ∧
  (zk Z (ad 1 0) 12 ∧ zN Z (ad 1 0) = n ∧ zk Z (ad 2 0) 13 ∧ zN Z (ad 2 0) = n) ∧
  (∀ i, i < n → zQ Z (ad 1 0) i = some (ad 3 i) ∧ zQ Z (ad 2 0) i = some (ad 12 i) ∧ zNd Z ad i) ∧
  (∀ r, zri n r → zRg Z ad r) ∧ 2 ≤ n ∧ n ≤ 8
theorem zSh_of {Z : zZ} {ad : Nat → Nat → Nat} {n : Nat} (h : zCs Z ad n) : zSh Z ad n := ⟨h.1, h.2.1, h.2.2.1, h.2.2.2.1, h.2.2.2.2.2.2⟩
theorem zNd_mono {Z Z' : zZ} {ad : Nat → Nat → Nat} {i : Nat} (e : zZe Z Z') (h : zNd Z ad i) : zNd Z' ad i := by
  obtain ⟨⟨a1, a2, a3, a4, a5⟩, ⟨b1, b2, b3, b4⟩, ⟨c1, c2, c3, c4, c5, c6, c7⟩, ⟨d1, d2, d3, d4⟩, e1, e2⟩ := h
  have f3 := e _ _ a1
  have f4 := e _ _ b1
  have f5 := e _ _ b3
  have f6 := e _ _ c1
  have f7 := e _ _ c4
  have f8 := e _ _ c6
  have f9 := e _ _ d1
  have f10 := e _ _ d3
  have f11 := e _ _ e1
  exact ⟨⟨f3.1, (f3.2.2 _).trans a2, (f3.2.2 _).trans a3, (f3.2.2 _).trans a4, (f3.2.2 _).trans a5⟩, ⟨f4.1, (f4.2.2 _).trans b2, f5.1, f5.2.1.trans b4⟩, ⟨f6.1, (f6.2.2 _).trans c2, (f6.2.2 _).trans c3, f7.1, f7.2.1.trans c5, f8.1, f8.2.1.trans c7⟩, ⟨f9.1, (f9.2.2 _).trans d2, f10.1, f10.2.1.trans d4⟩, f11.1, f11.2.1.trans e2⟩
theorem zRg_mono {Z Z' : zZ} {ad : Nat → Nat → Nat} {i : Nat} (e : zZe Z Z') (h : zRg Z ad i) : zRg Z' ad i := by
  obtain ⟨a1, a2, a3, b1, b2, c1, c2⟩ := h
  have f1 := e _ _ a1
  have f2 := e _ _ b1
  have f3 := e _ _ c1
  exact ⟨f1.1, (f1.2.2 _).trans a2, (f1.2.2 _).trans a3, f2.1, f2.2.1.trans b2, f3.1, f3.2.1.trans c2⟩
theorem zSh_mono {Z Z' : zZ} {ad : Nat → Nat → Nat} {n : Nat} (e : zZe Z Z') (h : zSh Z ad n) : zSh Z' ad n := by
  obtain ⟨⟨a1, a2, a3, a4⟩, ⟨b1, b2, b3, b4⟩, c, d, hn⟩ := h
  have f0 := e _ _ a1
  have f1 := e _ _ b1
  have f2 := e _ _ b3
  exact ⟨⟨f0.1, (f0.2.2 _).trans a2, (f0.2.2 _).trans a3, (f0.2.2 _).trans a4⟩, ⟨f1.1, f1.2.1.trans b2, f2.1, f2.2.1.trans b4⟩, fun i hi => ⟨(f1.2.2 _).trans (c i hi).1, (f2.2.2 _).trans (c i hi).2.1, zNd_mono e (c i hi).2.2⟩, fun r hr => zRg_mono e (d r hr), hn⟩
theorem zSh_k {Z : zZ} {ad : Nat → Nat → Nat} {n t i : Nat} (h : zSh Z ad n) (hu : usdb n t i = true) : ∃ k, k ≠ 1 ∧ zk Z (ad t i) k := by
  obtain ⟨⟨a1, a2, a3, a4⟩, ⟨b1, b2, b3, b4⟩, c, d, hn⟩ := h
  rcases usdb_iff.mp hu with ⟨h1, rfl⟩ | ⟨h1, h2, h3⟩ | ⟨h1, h2, h3⟩
  · have : t = 0 ∨ t = 1 ∨ t = 2 := by omega
    rcases this with e | e | e <;> subst e
    · exact ⟨6, by omega, a1⟩
    · exact ⟨12, by omega, b1⟩
    · exact ⟨13, by omega, b3⟩
  · obtain ⟨⟨a1, -⟩, ⟨b1, -, b3, -⟩, ⟨c1, -, -, c4, -, c6, -⟩, ⟨d1, -, d3, -⟩, e1, -⟩ := (c i h3).2.2
    have : t = 3 ∨ t = 4 ∨ t = 5 ∨ t = 6 ∨ t = 7 ∨ t = 8 ∨ t = 9 ∨ t = 10 ∨ t = 11 := by omega
    rcases this with e | e | e | e | e | e | e | e | e <;> subst e
    · exact ⟨2, by omega, a1⟩
    · exact ⟨3, by omega, b1⟩
    · exact ⟨11, by omega, b3⟩
    · exact ⟨4, by omega, c1⟩
    · exact ⟨9, by omega, c4⟩
    · exact ⟨11, by omega, c6⟩
    · exact ⟨0, by omega, d1⟩
    · exact ⟨9, by omega, d3⟩
    · exact ⟨11, by omega, e1⟩
  · obtain ⟨a1, -, -, b1, -, c1, -⟩ := d i h3
    have : t = 12 ∨ t = 13 ∨ t = 14 := by omega
    rcases this with e | e | e <;> subst e
    · exact ⟨5, by omega, a1⟩
    · exact ⟨10, by omega, b1⟩
    · exact ⟨8, by omega, c1⟩
theorem sqc_lt {s t s' t' : Nat} (h : t ≤ s) (hs : s < s') : s * s + t < s' * s' + t' := by
  have h1 : (s + 1) * (s + 1) ≤ s' * s' := Nat.mul_le_mul hs hs
  have h2 : (s + 1) * (s + 1) = s * s + 2 * s + 1 := by rw [Nat.add_mul, Nat.mul_add]; omega
  omega
theorem sqc_inj {t i t' i' : Nat} (h : (t + i) * (t + i) + t = (t' + i') * (t' + i') + t') : t = t' ∧ i = i' := by
  rcases Nat.lt_trichotomy (t + i) (t' + i') with e | e | e
  · have := sqc_lt (s := t + i) (t := t) (s' := t' + i') (t' := t') (by omega) e; omega
  · rw [e] at h; omega
  · have := sqc_lt (s := t' + i') (t := t') (s' := t + i) (t' := t) (by omega) e; omega
/-- the same addresses where they are used, others beyond M -/
def adx (M n : Nat) (ad : Nat → Nat → Nat) (t i : Nat) : Nat := if usdb n t i = true then ad t i else M + ((t + i) * (t + i) + t)
theorem adx_u {M n : Nat} {ad : Nat → Nat → Nat} {t i : Nat} (h : usdb n t i = true) : adx M n ad t i = ad t i := if_pos h
theorem zNd_adx {Z : zZ} {M n : Nat} {ad : Nat → Nat → Nat} {i : Nat} (hi : i < n) (h : zNd Z ad i) : zNd Z (adx M n ad) i := by
  have e : ∀ t, 3 ≤ t → t < 12 → adx M n ad t i = ad t i := fun t h1 h2 => adx_u (usdb_iff.mpr (Or.inr (Or.inl ⟨h1, h2, hi⟩)))
  unfold zNd
  rw [e 3 (by omega) (by omega), e 4 (by omega) (by omega), e 5 (by omega) (by omega), e 6 (by omega) (by omega), e 7 (by omega) (by omega), e 8 (by omega) (by omega), e 9 (by omega) (by omega), e 10 (by omega) (by omega), e 11 (by omega) (by omega)]
  exact h
theorem zRg_adx {Z : zZ} {M n : Nat} {ad : Nat → Nat → Nat} {i : Nat} (hi : zri n i) (h : zRg Z ad i) : zRg Z (adx M n ad) i := by
  have e : ∀ t, 12 ≤ t → t < 15 → adx M n ad t i = ad t i := fun t h1 h2 => adx_u (usdb_iff.mpr (Or.inr (Or.inr ⟨h1, h2, hi⟩)))
  unfold zRg
  rw [e 12 (by omega) (by omega), e 13 (by omega) (by omega), e 14 (by omega) (by omega)]
  exact h
theorem zCs_adx {Z : zZ} {M n : Nat} {ad : Nat → Nat → Nat} (h : zSh Z ad n) (hM : ∀ a, a ∈ zL Z → a < M) (hinj : ∀ t i t' i', usdb n t i = true → usdb n t' i' = true → ad t i = ad t' i' → t = t' ∧ i = i') : zCs Z (adx M n ad) n := by
  have hk := fun t i (hu : usdb n t i = true) => zSh_k h hu
  obtain ⟨⟨a1, a2, a3, a4⟩, ⟨b1, b2, b3, b4⟩, c, d, hn⟩ := h
  have e0 : ∀ t, t < 3 → adx M n ad t 0 = ad t 0 := fun t ht => adx_u (usdb_iff.mpr (Or.inl ⟨ht, rfl⟩))
  have er : ∀ r, zri n r → adx M n ad 12 r = ad 12 r := fun r hr => adx_u (usdb_iff.mpr (Or.inr (Or.inr ⟨by omega, by omega, hr⟩)))
  have en : ∀ i, i < n → adx M n ad 3 i = ad 3 i := fun i hi => adx_u (usdb_iff.mpr (Or.inr (Or.inl ⟨by omega, by omega, hi⟩)))
  refine ⟨⟨?_, ?_, ?_, ?_⟩, ⟨?_, ?_, ?_, ?_⟩, fun i hi => ⟨?_, ?_, zNd_adx hi (c i hi).2.2⟩, fun r hr => zRg_adx hr (d r hr), fun t i t' i' => ⟨fun e => ?_, fun e => by rw [e.1, e.2]⟩, fun t i hz => ?_, hn⟩
  · rw [e0 0 (by omega)]; exact a1
  · rw [e0 0 (by omega), e0 1 (by omega)]; exact a2
  · rw [e0 0 (by omega), e0 2 (by omega)]; exact a3
  · rw [e0 0 (by omega), er 8 (Or.inr rfl)]; exact a4
  · rw [e0 1 (by omega)]; exact b1
  · rw [e0 1 (by omega)]; exact b2
  · rw [e0 2 (by omega)]; exact b3
  · rw [e0 2 (by omega)]; exact b4
  · rw [e0 1 (by omega), en i hi]; exact (c i hi).1
  · rw [e0 2 (by omega), er i (Or.inl hi)]; exact (c i hi).2.1
  · unfold adx at e
    by_cases h1 : usdb n t i = true
    · by_cases h2 : usdb n t' i' = true
      · rw [if_pos h1, if_pos h2] at e
        exact hinj t i t' i' h1 h2 e
      · rw [if_pos h1, if_neg h2] at e
        obtain ⟨k, -, hz⟩ := hk t i h1
        have := hM _ hz.1
        omega
    · by_cases h2 : usdb n t' i' = true
      · rw [if_neg h1, if_pos h2] at e
        obtain ⟨k, -, hz⟩ := hk t' i' h2
        have := hM _ hz.1
        omega
      · rw [if_neg h1, if_neg h2] at e
        exact sqc_inj (by omega)
  · unfold adx at hz
    by_cases h1 : usdb n t i = true
    · rw [if_pos h1] at hz
      obtain ⟨k, hk1, hk2⟩ := hk t i h1
      exact hk1 (hk2.2.symm.trans hz.2)
    · rw [if_neg h1] at hz
      have := hM _ hz.1
      omega
/-- the view moves to a heap that has grown -/
theorem zCV_ad {Z Z' : zZ} {S0 S S' : zS} {ad ad' : Nat → Nat → Nat} {n w : Nat} {G : gT} (H : zCV Z S0 ad n w S G) (hs : zCs Z' ad' n) (hu : ∀ t i, usdb n t i = true → ad' t i = ad t i ∧ zAt S S' (ad t i)) (hm : ∀ b, zk Z b 1 → zk Z' b 1 ∧ zAt S S' b) : zCV Z' S' ad' n w S' G := by
  obtain ⟨h1, h2, h3, h4, h5⟩ := H
  have mg : ∀ b x y z v, zMg Z S b x y v z → zMg Z' S' b x y v z := fun b x y z v m => ⟨(hm b m.1).1, (zMg_at (hm b m.1).2 m).2⟩
  have mk1 : ∀ b y v, zMk1 Z S b y v → zMk1 Z' S' b y v := fun b y v m => ⟨(hm b m.1).1, (zMk1_at (hm b m.1).2 m).2⟩
  refine ⟨hs, ?_, fun i hi => ⟨⟨⟨?_, fun f hf hf2 => ?_⟩, ?_, ⟨?_, fun k hk => ?_, fun k hk => ?_⟩, fun k hk => ?_, fun p hp => ?_, fun p hp => ?_⟩, (h3 i hi).2⟩, fun r hr => ?_, fun a _ => zAt_rf _ _⟩
  · have e := hu 0 0 (usdb_iff.mpr (Or.inl ⟨by omega, rfl⟩))
    rw [e.1, e.2.1]; exact h2
  all_goals try have hn := fun t (a : 3 ≤ t) (b : t < 12) => hu t i (usdb_iff.mpr (Or.inr (Or.inl ⟨a, b, hi⟩)))
  all_goals try have z := (h3 i hi).1
  · have e := hn 3 (by omega) (by omega)
    rw [e.1, e.2.1]; exact z.1.1
  · have hc := cT_rg f hf
    have e := hn (cT f) (by omega) (by omega)
    rw [e.1, e.2.1]; exact z.1.2 f hf hf2
  · have e := hn 3 (by omega) (by omega)
    have e2 := hu 12 ((G.1 i).1 2 0) (usdb_iff.mpr (Or.inr (Or.inr ⟨by omega, by omega, (h3 i hi).2⟩)))
    unfold cnR
    rw [e.1, e.2.2.2, e2.1]; exact z.2.1
  · have e := hn 6 (by omega) (by omega)
    rw [e.1, e.2.2.1]; exact z.2.2.1.1
  · have e := hn 7 (by omega) (by omega)
    rw [e.1, e.2.2.1]; exact z.2.2.1.2.1 k hk
  · have e := hn 10 (by omega) (by omega)
    rw [e.1, e.2.2.1]; exact z.2.2.1.2.2 k hk
  · have e := hn 5 (by omega) (by omega)
    obtain ⟨b, b1, b2⟩ := z.2.2.2.1 k hk
    exact ⟨b, by rw [e.1, e.2.2.2]; exact b1, mg _ _ _ _ _ b2⟩
  · have e := hn 8 (by omega) (by omega)
    obtain ⟨b0, b1⟩ := z.2.2.2.2.1 p hp
    rw [e.1, e.2.2.2]
    refine ⟨b0, fun hne => ?_⟩
    obtain ⟨b, c1, c2⟩ := b1 hne
    exact ⟨b, c1, mk1 _ _ _ c2⟩
  · have e := hn 11 (by omega) (by omega)
    obtain ⟨b0, b1⟩ := z.2.2.2.2.2 p hp
    rw [e.1, e.2.2.2]
    refine ⟨b0, fun hne => ?_⟩
    obtain ⟨b, c1, c2⟩ := b1 hne
    exact ⟨b, c1, mg _ _ _ _ _ c2⟩
  · have hn := fun t (a : 12 ≤ t) (b : t < 15) => hu t r (usdb_iff.mpr (Or.inr (Or.inr ⟨a, b, hr⟩)))
    have e1 := hn 12 (by omega) (by omega)
    have e2 := hn 13 (by omega) (by omega)
    have e3 := hn 14 (by omega) (by omega)
    unfold zCr
    rw [e1.1, e1.2.1, e2.1, e2.2.1, e3.1, e3.2.1]
    exact h4 r hr
theorem zAt_new {S : zS} {a b : Nat} (h : a ≠ b) (x0 x1 x3 : Int32) (x2 : Int64) : zAt S (zsI (zsJ (zsI (zsI (zalS S b) b 0 x0) b 1 x1) b 2 x2) b 3 x3) a :=
  zAt_tr (zAt_al S h) (zAt_tr (zAt_sI _ 0 x0 h) (zAt_tr (zAt_sI _ 1 x1 h) (zAt_tr (zAt_sJ _ 2 x2 h) (zAt_sI _ 3 x3 h))))
section
variable {Z : zZ} {S0 S : zS} {ad : Nat → Nat → Nat} {n w : Nat} {G : gT} {t l : Nat}
/-- the class's send: another heap, other names for what isn't used -/
theorem c_sendAll (H : zCV Z S0 ad n w S G) (h : gW n G t l) {x y z : Int32} {v : Int64} {Qp : Int32 → zZ → zS → Prop} {Xp : String → zS → Prop} (hz : z = 0 ∨ z = 1) (k1 : ∀ i key, i < n → x = nI i → key < 16 → y = nI key → (G.1 i).1 0 0 ≠ 0 → (G.1 i).1 11 0 < 12 → ∀ Z' ad' S1 S', zZe Z Z' → (∀ a, a ∈ zL Z → zAt S S1 a) → (∀ t i, usdb n t i = true → ad' t i = ad t i) → (∀ a, a ∈ zL Z → (∀ t i, a ≠ ad t i) → ∀ t i, a ≠ ad' t i) → zCV Z' S1 ad' n w S' (gN G i (nPut (G.1 i) key v (if z = 0 then 0 else 1))) → Qp (nI ((G.1 i).1 11 0 + 1)) Z' S') (k2 : ∀ i key, i < n → x = nI i → key < 16 → y = nI key → ((G.1 i).1 0 0 = 0 ∨ 12 ≤ (G.1 i).1 11 0) → Xp "java/lang/IllegalStateException" S) (k3 : (x < 0 ∨ nI n ≤ x) → Xp "java/lang/IndexOutOfBoundsException" S) (k4 : ∀ i, i < n → x = nI i → (y < 0 ∨ 16 ≤ y) → Xp "java/lang/IndexOutOfBoundsException" S) : w_X6_send Z (ad 0 0) x y v z S Qp Xp := by
  obtain ⟨r1, r2, r3, r4⟩ := cv_row H
  have hn := zCV_n H
  unfold w_X6_send
  refine ⟨r1, c_nodeAt H (fun i hi hx => ?_) k3⟩
  obtain ⟨⟨d1, d2, d3, d4, d5⟩, ⟨w1, w2, w3, w4⟩, -, -, -⟩ := zCV_nd H hi
  refine ⟨ad 3 i, rfl, c_key (fun key hk hy => ?_) (fun hy => k4 i hi hx hy)⟩
  have i0 : zI S (ad 3 i) 5 = nI ((G.1 i).1 0 0) := (cv_g H hi).1.2 0 (by omega) (by omega)
  have hb := h.1 i hi
  have e0 : (nI ((G.1 i).1 0 0) = 0) ↔ (G.1 i).1 0 0 = 0 := nI_eq (by omega) (by omega : 0 < 2 ^ 31)
  unfold wJ_X6_send_30
  rw [i0, e0]
  refine ⟨d1, fun q => k2 i key hi hx hk hy (Or.inl q), fun q => ⟨ad 4 i, d2, w1, c_isFull (N := G.1 i) (cn_0 H) hi (by omega) ⟨fun q2 b13 hb13 Z15 S16 e15 e16 => ?_, fun q2 => k2 i key hi hx hk hy (Or.inr ?_)⟩⟩⟩
  · have hlt : (G.1 i).1 11 0 < 12 := by
      by_cases c : (G.1 i).1 11 0 < 12
      · exact c
      · rw [if_neg c] at q2; exact absurd q2 (by decide)
    subst e15 e16
    have hZ := zZe_al hb13 1 4 (Z := Z)
    obtain ⟨M, hM⟩ := lst_bd (zL (zalZ Z b13 1 4))
    have hinj : ∀ t i t' i', usdb n t i = true → usdb n t' i' = true → ad t i = ad t' i' → t = t' ∧ i = i' := fun t i t' i' _ _ e => (zCV_inj H).mp e
    have hCs := zCs_adx (zSh_mono hZ (zSh_of H.1)) hM hinj
    unfold w_X1_init
    refine ⟨zk_al _ _ _ _, fun S2 e2 S3 e3 S4 e4 => ⟨hz, fun S5 e5 => ?_⟩⟩
    have hat : ∀ a, a ≠ b13 → zAt S S5 a := fun a ha => by
      rw [e5, e4, e3, e2]
      exact zAt_new ha _ _ _ _
    have H5 : zCV (zalZ Z b13 1 4) S5 (adx M n ad) n w S5 G := zCV_ad H hCs (fun t i hu => by
      obtain ⟨k, -, hk⟩ := zSh_k (zSh_of H.1) hu
      exact ⟨adx_u hu, hat _ (zk_ne hk hb13)⟩) (fun b hk => ⟨(hZ b 1 hk).1, hat _ (zk_ne hk hb13)⟩)
    have hu4 : adx M n ad 4 i = ad 4 i := adx_u (usdb_iff.mpr (Or.inr (Or.inl ⟨by omega, by omega, hi⟩)))
    have hmg : zMg (zalZ Z b13 1 4) S5 b13 i key v (if z = 0 then 0 else 1) := by
      refine ⟨zk_al _ _ _ _, ?_, ?_, ?_, ?_⟩
      · rw [e5, zI_sI, if_neg (fun q => by omega), e4, zI_sJ, e3, zI_sI, if_neg (fun q => by omega), e2, zI_sI, if_pos ⟨rfl, rfl⟩]; exact hx
      · rw [e5, zI_sI, if_neg (fun q => by omega), e4, zI_sJ, e3, zI_sI, if_pos ⟨rfl, rfl⟩]; exact hy
      · rw [e5, zJ_sI, e4, zJ_sJ, if_pos ⟨rfl, rfl⟩]
      · rw [e5, zI_sI, if_pos ⟨rfl, rfl⟩]
        rcases hz with e | e <;> subst e <;> rfl
    refine ⟨(hZ _ _ w1).1, ?_⟩
    rw [← hu4]
    refine c_put (N := G.1 i) (cn_0 H5) hi hlt hmg (fun S24 H24 => k1 i key hi hx hk hy q hlt _ (adx M n ad) S5 S24 hZ (fun a ha => hat a (fun e => hb13 (e ▸ ha))) (fun t i hu => adx_u hu) (fun a ha hne t i e => ?_) H24)
    unfold adx at e
    by_cases hu : usdb n t i = true
    · rw [if_pos hu] at e; exact hne t i e
    · rw [if_neg hu] at e
      have := hM a (List.mem_append_left _ ha)
      omega
  · by_cases c : (G.1 i).1 11 0 < 12
    · rw [if_pos c] at q2; exact absurd rfl q2
    · omega
end
