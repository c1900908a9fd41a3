/-! small calls keep what holds -/
section
variable {n : Nat} {G G' : gT} {t l : Nat}
theorem iv_V_sub (h : iv_V n G) (e1 : ∀ j, j < n → ((G'.1 j).1 2 0 = 8 ∨ (G'.1 j).1 2 0 = (G.1 j).1 2 0) ∧ (G'.1 j).1 3 0 = (G.1 j).1 3 0 ∧ (G'.1 j).1 4 0 = (G.1 j).1 4 0 ∧ (G'.1 j).1 5 0 = (G.1 j).1 5 0) (e2 : ∀ r, (G'.2 r).1 0 0 = (G.2 r).1 0 0 ∧ (G'.2 r).1 1 0 = (G.2 r).1 1 0) : iv_V n G' := by
  obtain ⟨a1, a2, a3, a4, a5, a6, a7, a8⟩ := h
  have er : ∀ j, j < n → (G'.1 j).1 2 0 ≠ 8 → (G'.1 j).1 2 0 = (G.1 j).1 2 0 := fun j hj h8 => by
    rcases (e1 j hj).1 with e | e
    · exact absurd e h8
    · exact e
  refine ⟨fun j hj h8 => ?_, fun j hj h8 => ?_, fun j hj => ?_, fun i j hi hj => ?_, fun i j hi hj hi8 hj8 => ?_, fun j hj h8 m hm => ?_, fun i j hi hj hi8 hj8 => ?_, fun i k hi hk => ?_⟩
  · have e := er j hj h8
    rw [e] at h8 ⊢
    rw [(e2 _).2]; exact a1 j hj h8
  · have e := er j hj h8
    rw [e] at h8 ⊢
    rw [(e2 _).1]; exact a2 j hj h8
  · rw [(e1 j hj).2.1, (e1 j hj).2.2.1]; exact a3 j hj
  · rw [(e1 j hj).2.2.1, (e1 j hj).2.2.2, (e1 i hi).2.2.1, (e1 i hi).2.2.2]; exact a4 i j hi hj
  · have ei := er i hi hi8
    have ej := er j hj hj8
    rw [ei] at hi8 ⊢
    rw [ej] at hj8 ⊢
    rw [(e1 j hj).2.2.1, (e1 i hi).2.2.1, (e2 _).1, (e2 _).1]; exact a5 i j hi hj hi8 hj8
  · have e := er j hj h8
    rw [e] at h8 ⊢
    rw [(e2 _).1, (e2 _).2, (e1 m hm).2.1]; exact a6 j hj h8 m hm
  · have ei := er i hi hi8
    have ej := er j hj hj8
    rw [ei] at hi8 ⊢
    rw [ej] at hj8 ⊢
    rw [(e2 _).1, (e2 _).1, (e2 _).2, (e2 _).2]; exact a7 i j hi hj hi8 hj8
  · have e : mk (fun m => decide ((G'.1 i).1 4 0 < (G'.1 m).1 4 0)) n = mk (fun m => decide ((G.1 i).1 4 0 < (G.1 m).1 4 0)) n := mk_ext (fun m hm => by rw [(e1 i hi).2.2.1, (e1 m hm).2.2.1])
    rw [e, (e1 i hi).2.2.1, (e1 k hk).2.2.1, (e1 i hi).2.2.2]; exact a8 i k hi hk
theorem iv_K_sub (h : iv_K n G) (e1 : ∀ j, j < n → ((G'.1 j).1 2 0 = 8 ∨ (G'.1 j).1 2 0 = (G.1 j).1 2 0) ∧ (G'.1 j).1 4 0 = (G.1 j).1 4 0 ∧ ∀ p, (G'.1 j).1 14 p = (G.1 j).1 14 p ∧ (G'.1 j).1 15 p = (G.1 j).1 15 p ∧ (G'.1 j).2 14 p = (G.1 j).2 14 p) (e2 : ∀ r, (G'.2 r).1 0 0 = (G.2 r).1 0 0 ∧ (G'.2 r).1 3 0 = (G.2 r).1 3 0 ∧ ∀ p, (G'.2 r).1 7 p = (G.2 r).1 7 p ∧ (G'.2 r).2 6 p = (G.2 r).2 6 p) : iv_K n G' := by
  obtain ⟨a1, a2⟩ := h
  refine ⟨fun i j hi hj p => ?_, fun i j hi hj p h8 hv hij hp => ?_⟩
  · obtain ⟨-, i4, ip⟩ := e1 i hi
    obtain ⟨-, j4, jp⟩ := e1 j hj
    rw [i4, j4, (ip p).1, (ip p).2.1, (ip p).2.2, (jp p).1, (jp p).2.1, (jp p).2.2]; exact a1 i j hi hj p
  · obtain ⟨-, i4, ip⟩ := e1 i hi
    obtain ⟨j2, j4, jp⟩ := e1 j hj
    rcases j2 with j2 | j2
    · exact absurd j2 h8
    · rw [j2] at h8 hv ⊢
      rw [(e2 _).1, j4] at hv
      rw [i4, j4] at hij
      rw [(ip p).1] at hp
      obtain ⟨-, c2, c3⟩ := e2 ((G.1 j).1 2 0)
      rw [(ip p).2.1, (ip p).2.2, (c3 p).1, (c3 p).2, c2]
      exact a2 i j hi hj p h8 hv hij hp
theorem W_crash {i : Nat} (h : gW n G t l) (hi : i < n) : gW n (gCrash G i) t l := by
  obtain ⟨hnd, hrg, ht, ⟨s1, s2, s3, s4, s5, s6⟩, hV, hK⟩ := h
  have eI : (gCrash G i).1 i = nLeave (nsI (nsI (G.1 i) 0 0 0) 11 0 0) := g1_Ns _ _ _
  have eJ : ∀ j, j ≠ i → (gCrash G i).1 j = G.1 j := fun j e => g1_Nn _ _ e
  have eR : ∀ r f x, f ≠ 2 → ((gCrash G i).2 r).1 f x = (G.2 r).1 f x := fun r f x hf => by
    unfold gCrash
    rw [g2_N, g2_R]
    split
    · rename_i q
      unfold rLeave
      split
      · rw [n1_ne _ _ _ _ hf, q]
      · rw [q]
    · rfl
  have eRj : ∀ r x, ((gCrash G i).2 r).2 6 x = (G.2 r).2 6 x := fun r x => by
    unfold gCrash
    rw [g2_N, g2_R]
    split
    · rename_i q
      unfold rLeave
      split
      · rw [q]; rfl
      · rw [q]
    · rfl
  have e2 : ∀ r, ((gCrash G i).2 r).1 2 0 = 0 ∨ (((gCrash G i).2 r).1 2 0 = (G.2 r).1 2 0 ∧ (r = (G.1 i).1 2 0 → (G.2 r).1 2 0 ≠ i + 1)) := fun r => by
    unfold gCrash
    rw [g2_N, g2_R]
    split
    · rename_i q
      unfold rLeave
      split
      · exact Or.inl (n1_eq _ _ _ _)
      · rename_i z
        rw [← q] at z ⊢
        exact Or.inr ⟨rfl, fun _ => z⟩
    · rename_i q
      exact Or.inr ⟨rfl, fun e => absurd e q⟩
  have fI : ∀ f x, f ≠ 16 → f ≠ 2 → f ≠ 6 → f ≠ 7 → f ≠ 0 → f ≠ 11 → ((gCrash G i).1 i).1 f x = (G.1 i).1 f x := fun f x a b c d e g => by
    rw [eI, nLeave_ne _ _ a b c d, n1_ne _ _ _ _ g, n1_ne _ _ _ _ e]
  have fA : ∀ j f x, f ≠ 16 → f ≠ 2 → f ≠ 6 → f ≠ 7 → f ≠ 0 → f ≠ 11 → ((gCrash G i).1 j).1 f x = (G.1 j).1 f x := fun j f x a b c d e g => by
    by_cases q : j = i
    · rw [q]; exact fI f x a b c d e g
    · rw [eJ j q]
  have fj : ∀ j x, ((gCrash G i).1 j).2 14 x = (G.1 j).2 14 x := fun j x => by
    by_cases q : j = i
    · rw [q, eI]; rfl
    · rw [eJ j q]
  have f2 : ∀ j, ((gCrash G i).1 j).1 2 0 = 8 ∨ ((gCrash G i).1 j).1 2 0 = (G.1 j).1 2 0 := fun j => by
    by_cases q : j = i
    · rw [q, eI]; exact Or.inl rfl
    · rw [eJ j q]; exact Or.inr rfl
  refine ⟨fun j hj => ?_, fun r => ?_, ⟨fun j hj => ?_, fun r => ?_⟩, ⟨fun j hj x hx => ?_, fun r x hx hq => ?_, fun r m hm he => ?_, ⟨?_, ?_, ?_⟩, fun j hj hu => ?_, fun j hj h8 => ?_⟩, iv_V_sub hV (fun j hj => ⟨f2 j, fA j 3 0 (by omega) (by omega) (by omega) (by omega) (by omega) (by omega), fA j 4 0 (by omega) (by omega) (by omega) (by omega) (by omega) (by omega), fA j 5 0 (by omega) (by omega) (by omega) (by omega) (by omega) (by omega)⟩) (fun r => ⟨eR r 0 0 (by omega), eR r 1 0 (by omega)⟩), iv_K_sub hK (fun j hj => ⟨f2 j, fA j 4 0 (by omega) (by omega) (by omega) (by omega) (by omega) (by omega), fun p => ⟨fA j 14 p (by omega) (by omega) (by omega) (by omega) (by omega) (by omega), fA j 15 p (by omega) (by omega) (by omega) (by omega) (by omega) (by omega), fj j p⟩⟩) (fun r => ⟨eR r 0 0 (by omega), eR r 3 0 (by omega), fun p => ⟨eR r 7 p (by omega), eRj r p⟩⟩)⟩
  · by_cases q : j = i
    · rw [q]
      have o := hnd i hi
      rw [fI 1 0 (by omega) (by omega) (by omega) (by omega) (by omega) (by omega), fI 5 0 (by omega) (by omega) (by omega) (by omega) (by omega) (by omega), fI 9 0 (by omega) (by omega) (by omega) (by omega) (by omega) (by omega)]
      refine ⟨⟨?_, o.1.2.1, ?_, o.1.2.2.2⟩, ⟨?_, ?_, o.2.1.2.2.1, ?_⟩, fun k hk => ?_, fun p => ?_⟩
      · have : ((gCrash G i).1 i).1 0 0 = 0 := by rw [eI]; rfl
        omega
      · have : ((gCrash G i).1 i).1 2 0 = 8 := by rw [eI]; rfl
        rw [this]; exact Or.inr rfl
      · have : ((gCrash G i).1 i).1 6 0 = 0 := by rw [eI]; rfl
        omega
      · have : ((gCrash G i).1 i).1 7 0 = 0 := by rw [eI]; rfl
        omega
      · have : ((gCrash G i).1 i).1 11 0 = 0 := by rw [eI]; rfl
        omega
      · have : ((gCrash G i).1 i).1 11 0 = 0 := by rw [eI]; rfl
        omega
      · rw [fI 14 p (by omega) (by omega) (by omega) (by omega) (by omega) (by omega), fI 15 p (by omega) (by omega) (by omega) (by omega) (by omega) (by omega)]
        exact o.2.2.2 p
    · rw [eJ j q]; exact hnd j hj
  · have o := hrg r
    refine ⟨⟨by rw [eR r 1 0 (by omega)]; exact o.1.1, ?_, by rw [eR r 3 0 (by omega)]; exact o.1.2.2⟩, fun p hp => by rw [eR r 4 p (by omega)]; exact o.2.1 p hp, fun j hj => by rw [eR r 5 j (by omega)]; exact o.2.2.1 j hj, fun p hp => by rw [eR r 6 p (by omega), eR r 7 p (by omega), eR r 8 p (by omega)]; exact o.2.2.2 p hp⟩
    rcases e2 r with e | ⟨e, -⟩
    · rw [e]; omega
    · rw [e]; exact o.1.2.1
  · rw [fA j 3 0 (by omega) (by omega) (by omega) (by omega) (by omega) (by omega), fA j 4 0 (by omega) (by omega) (by omega) (by omega) (by omega) (by omega), fA j 8 0 (by omega) (by omega) (by omega) (by omega) (by omega) (by omega), fA j 10 0 (by omega) (by omega) (by omega) (by omega) (by omega) (by omega)]; exact ht.1 j hj
  · rw [eR r 0 0 (by omega)]; exact ht.2 r
  · by_cases q : j = i
    · rw [q, eI] at hx; exact absurd rfl hx
    · rw [eJ j q] at hx ⊢
      rw [eR _ 3 0 (by omega)]; exact s1 j hj x hx
  · rw [eR r 4 x (by omega)] at hq
    rw [eR r 3 0 (by omega)]; exact s2 r x hx hq
  · rcases e2 r with e | ⟨e, z⟩
    · rw [e] at he; omega
    · rw [e] at he
      have o := s3 r m hm he
      have hmi : m ≠ i := fun q => by
        rw [q] at o he
        exact z o.symm he
      rw [eJ m hmi]; exact o
  · rw [eR 8 0 0 (by omega)]; exact s4.1
  · rw [eR 8 1 0 (by omega)]; exact s4.2.1
  · rcases e2 8 with e | ⟨e, -⟩
    · exact e
    · rw [e]; exact s4.2.2
  · by_cases q : j = i
    · rw [q, eI]; rfl
    · rw [eJ j q] at hu ⊢; exact s5 j hj hu
  · by_cases q : j = i
    · rw [q, eI]; exact ⟨rfl, rfl⟩
    · rw [eJ j q] at h8 ⊢; exact s6 j hj h8
/-- node i's up, group and what waits change -/
theorem W_flag {i : Nat} {N : nT} (h : gW n G t l) (hi : i < n) (e : ∀ f x, f ≠ 0 → f ≠ 1 → f ≠ 11 → f ≠ 12 → f ≠ 13 → N.1 f x = (G.1 i).1 f x) (eJ : ∀ x, N.2 14 x = (G.1 i).2 14 x) (b0 : N.1 0 0 < 2) (b1 : N.1 1 0 < 8) (b11 : N.1 11 0 ≤ 12) (bq : ∀ q, q < N.1 11 0 → N.1 12 q < 16 ∧ N.1 13 q < 2) (hu : N.1 0 0 = 0 → (G.1 i).1 2 0 = 8) : gW n (gN G i N) t l := by
  obtain ⟨hnd, hrg, ht, ⟨s1, s2, s3, s4, s5, s6⟩, hV, hK⟩ := h
  have eg : ∀ j f x, f ≠ 0 → f ≠ 1 → f ≠ 11 → f ≠ 12 → f ≠ 13 → ((gN G i N).1 j).1 f x = (G.1 j).1 f x := fun j f x a b c d f' => by
    rw [g1_N]
    split
    · rename_i q; rw [q]; exact e f x a b c d f'
    · rfl
  have eJg : ∀ j x, ((gN G i N).1 j).2 14 x = (G.1 j).2 14 x := fun j x => by
    rw [g1_N]
    split
    · rename_i q; rw [q]; exact eJ x
    · rfl
  refine ⟨fun j hj => ?_, hrg, ⟨fun j hj => ?_, ht.2⟩, ⟨fun j hj p hp => ?_, s2, fun r k hk hr => ?_, s4, fun j hj hu' => ?_, fun j hj h8 => ?_⟩, iv_V_of hV (fun j hj => ⟨eg j 2 0 (by omega) (by omega) (by omega) (by omega) (by omega), eg j 3 0 (by omega) (by omega) (by omega) (by omega) (by omega), eg j 4 0 (by omega) (by omega) (by omega) (by omega) (by omega), eg j 5 0 (by omega) (by omega) (by omega) (by omega) (by omega)⟩) (fun r => ⟨rfl, rfl⟩), iv_K_of hK (fun j hj => ⟨eg j 2 0 (by omega) (by omega) (by omega) (by omega) (by omega), eg j 4 0 (by omega) (by omega) (by omega) (by omega) (by omega), fun p => ⟨eg j 14 p (by omega) (by omega) (by omega) (by omega) (by omega), eg j 15 p (by omega) (by omega) (by omega) (by omega) (by omega), eJg j p⟩⟩) (fun r => ⟨rfl, Nat.le_refl _, fun p _ => ⟨rfl, rfl⟩⟩)⟩
  · have o := hnd j hj
    by_cases q : j = i
    · subst q
      rw [g1_Ns]
      rw [e 2 0 (by omega) (by omega) (by omega) (by omega) (by omega), e 5 0 (by omega) (by omega) (by omega) (by omega) (by omega), e 6 0 (by omega) (by omega) (by omega) (by omega) (by omega), e 7 0 (by omega) (by omega) (by omega) (by omega) (by omega), e 9 0 (by omega) (by omega) (by omega) (by omega) (by omega)]
      refine ⟨⟨b0, b1, o.1.2.2⟩, ⟨o.2.1.1, o.2.1.2.1, o.2.1.2.2.1, b11⟩, bq, fun p => ?_⟩
      rw [e 14 p (by omega) (by omega) (by omega) (by omega) (by omega), e 15 p (by omega) (by omega) (by omega) (by omega) (by omega)]
      exact o.2.2.2 p
    · rw [g1_Nn _ _ q]; exact o
  · rw [eg j 3 0 (by omega) (by omega) (by omega) (by omega) (by omega), eg j 4 0 (by omega) (by omega) (by omega) (by omega) (by omega), eg j 8 0 (by omega) (by omega) (by omega) (by omega) (by omega), eg j 10 0 (by omega) (by omega) (by omega) (by omega) (by omega)]
    exact ht.1 j hj
  · rw [eg j 16 p (by omega) (by omega) (by omega) (by omega) (by omega)] at hp
    rw [eg j 2 0 (by omega) (by omega) (by omega) (by omega) (by omega)]
    exact s1 j hj p hp
  · rw [eg k 2 0 (by omega) (by omega) (by omega) (by omega) (by omega)]
    exact s3 r k hk hr
  · rw [eg j 2 0 (by omega) (by omega) (by omega) (by omega) (by omega)]
    by_cases q : j = i
    · subst q
      rw [g1_Ns] at hu'
      exact hu hu'
    · rw [g1_Nn _ _ q] at hu'
      exact s5 j hj hu'
  · rw [eg j 2 0 (by omega) (by omega) (by omega) (by omega) (by omega)] at h8
    rw [eg j 6 0 (by omega) (by omega) (by omega) (by omega) (by omega), eg j 7 0 (by omega) (by omega) (by omega) (by omega) (by omega)]
    exact s6 j hj h8
theorem W_part {i g : Nat} (h : gW n G t l) (hi : i < n) (hg : g < 8) : gW n (gN G i (nsI (G.1 i) 1 0 g)) t l := by
  have o := h.1 i hi
  refine W_flag h hi (fun f x a b c d e => n1_ne _ _ _ _ b) (fun x => rfl) ?_ ?_ ?_ (fun q hq => ?_) (fun hu => ?_)
  · rw [n1_ne _ _ _ _ (by omega)]; exact o.1.1
  · rw [n1_eq]; exact hg
  · rw [n1_ne _ _ _ _ (by omega)]; exact o.2.1.2.2.2
  · rw [n1_ne _ _ _ _ (by omega)] at hq
    rw [n1_ne _ _ _ _ (by omega), n1_ne _ _ _ _ (by omega)]; exact o.2.2.1 q hq
  · rw [n1_ne _ _ _ _ (by omega)] at hu; exact h.2.2.2.1.2.2.2.2.1 i hi hu
theorem W_restart {i : Nat} (h : gW n G t l) (hi : i < n) : gW n (gN G i (nsI (G.1 i) 0 0 1)) t l := by
  have o := h.1 i hi
  refine W_flag h hi (fun f x a b c d e => n1_ne _ _ _ _ a) (fun x => rfl) ?_ ?_ ?_ (fun q hq => ?_) (fun hu => ?_)
  · rw [n1_eq]; omega
  · rw [n1_ne _ _ _ _ (by omega)]; exact o.1.2.1
  · rw [n1_ne _ _ _ _ (by omega)]; exact o.2.1.2.2.2
  · rw [n1_ne _ _ _ _ (by omega)] at hq
    rw [n1_ne _ _ _ _ (by omega), n1_ne _ _ _ _ (by omega)]; exact o.2.2.1 q hq
  · rw [n1_eq] at hu; omega
theorem nPut_f (N : nT) (key : Nat) (v : Int64) (safe : Nat) : (nPut N key v safe).1 11 0 = N.1 11 0 + 1 ∧ (∀ q, (nPut N key v safe).1 12 q = if q = N.1 11 0 then key else N.1 12 q) ∧ (∀ q, (nPut N key v safe).1 13 q = if q = N.1 11 0 then safe else N.1 13 q) ∧ (∀ q, (nPut N key v safe).2 12 q = if q = N.1 11 0 then v else N.2 12 q) ∧ (∀ f x, f ≠ 11 → f ≠ 12 → f ≠ 13 → (nPut N key v safe).1 f x = N.1 f x) ∧ ∀ f x, f ≠ 12 → (nPut N key v safe).2 f x = N.2 f x := by
  refine ⟨n1_eq _ _ _ _, fun q => ?_, fun q => ?_, fun q => ?_, fun f x a b c => ?_, fun f x a => ?_⟩
  · unfold nPut
    rw [n1_ne _ _ _ _ (by omega), n1_sJ, n1_ne _ _ _ _ (by omega), n1_sI]
    by_cases e : q = N.1 11 0 <;> simp [e]
  · unfold nPut
    rw [n1_ne _ _ _ _ (by omega), n1_sJ, n1_sI]
    by_cases e : q = N.1 11 0
    · simp [e]
    · rw [if_neg (fun r => e r.2), if_neg e, n1_ne _ _ _ _ (by omega)]
  · unfold nPut
    rw [n2_sI, n2_sJ]
    by_cases e : q = N.1 11 0 <;> simp [e, n2_sI]
  · unfold nPut
    rw [n1_ne _ _ _ _ a, n1_sJ, n1_ne _ _ _ _ c, n1_ne _ _ _ _ b]
  · unfold nPut
    rw [n2_sI, n2_ne _ _ _ _ a]
    rfl
theorem W_putP {i key safe : Nat} {v : Int64} (h : gW n G t l) (hi : i < n) (hc : (G.1 i).1 11 0 < 12) (hk : key < 16) (hs : safe < 2) : gW n (gN G i (nPut (G.1 i) key v safe)) t l := by
  have o := h.1 i hi
  obtain ⟨a11, a12, a13, -, af, aj⟩ := nPut_f (G.1 i) key v safe
  refine W_flag h hi (fun f x a b c d e => af f x c d e) (fun x => aj 14 x (by omega)) ?_ ?_ ?_ (fun q hq => ?_) (fun hu => ?_)
  · rw [af 0 0 (by omega) (by omega) (by omega)]; exact o.1.1
  · rw [af 1 0 (by omega) (by omega) (by omega)]; exact o.1.2.1
  · rw [a11]; omega
  · rw [a12, a13]
    rw [a11] at hq
    by_cases e : q = (G.1 i).1 11 0
    · rw [if_pos e, if_pos e]; exact ⟨hk, hs⟩
    · rw [if_neg e, if_neg e]; exact o.2.2.1 q (by omega)
  · rw [af 0 0 (by omega) (by omega) (by omega)] at hu; exact h.2.2.2.1.2.2.2.2.1 i hi hu
theorem gW_mono {t' l' : Nat} (h : gW n G t l) (ht : t ≤ t') (hl : l ≤ l') : gW n G t' l' := by
  refine ⟨h.1, h.2.1, ⟨fun j hj => ?_, fun r => ?_⟩, h.2.2.2⟩
  · have := h.2.2.1.1 j hj; omega
  · have := h.2.2.1.2 r; omega
end
