/-! small steps keep what holds -/
section
variable {n : Nat} {G : gT} {t l : Nat}
/-- node i's delivered, safe to, applied, done, logged and longs change -/
theorem W_node {i l' : Nat} {N : nT} (h : gW n G t l) (hi : i < n) (e : ∀ f x, f ≠ 6 → f ≠ 7 → f ≠ 8 → f ≠ 9 → f ≠ 10 → N.1 f x = (G.1 i).1 f x) (eJ : ∀ x, N.2 14 x = (G.1 i).2 14 x) (b6 : N.1 6 0 ≤ 100) (b7 : N.1 7 0 ≤ 100) (b9 : N.1 9 0 ≤ 100) (b8 : N.1 8 0 ≤ l') (b10 : N.1 10 0 ≤ l') (hl : l ≤ l') (hid : (G.1 i).1 2 0 = 8 → N.1 6 0 = 0 ∧ N.1 7 0 = 0) : gW n (gN G i N) t l' := by
  obtain ⟨hnd, hrg, ht, ⟨s1, s2, s3, s4, s5, s6⟩, hV, hK⟩ := h
  have eg : ∀ j f x, f ≠ 6 → f ≠ 7 → f ≠ 8 → f ≠ 9 → f ≠ 10 → ((gN G i N).1 j).1 f x = (G.1 j).1 f x := fun j f x a b c d f' => by
    rw [g1_N]
    split
    · rename_i q; rw [q]; exact e f x a b c d f'
    · rfl
  have eJg : ∀ j x, ((gN G i N).1 j).2 14 x = (G.1 j).2 14 x := fun j x => by
    rw [g1_N]
    split
    · rename_i q; rw [q]; exact eJ x
    · rfl
  refine ⟨fun j hj => ⟨?_, ?_, fun q hq => ?_, fun p => ?_⟩, hrg, ⟨fun j hj => ?_, ht.2⟩, ⟨fun j hj p hp => ?_, s2, fun r k hk hr => ?_, s4, fun j hj hu => ?_, fun j hj h8 => ?_⟩, iv_V_of hV (fun j hj => ?_) (fun r => ⟨rfl, rfl⟩), iv_K_of hK (fun j hj => ?_) (fun r => ⟨rfl, Nat.le_refl _, fun p _ => ⟨rfl, rfl⟩⟩)⟩
  · rw [eg j 0 0 (by omega) (by omega) (by omega) (by omega) (by omega), eg j 1 0 (by omega) (by omega) (by omega) (by omega) (by omega), eg j 2 0 (by omega) (by omega) (by omega) (by omega) (by omega), eg j 5 0 (by omega) (by omega) (by omega) (by omega) (by omega)]
    exact (hnd j hj).1
  · rw [eg j 11 0 (by omega) (by omega) (by omega) (by omega) (by omega)]
    have b := (hnd j hj).2.1
    rw [g1_N]
    split
    · exact ⟨b6, b7, b9, b.2.2.2⟩
    · exact b
  · rw [eg j 11 0 (by omega) (by omega) (by omega) (by omega) (by omega)] at hq
    rw [eg j 12 q (by omega) (by omega) (by omega) (by omega) (by omega), eg j 13 q (by omega) (by omega) (by omega) (by omega) (by omega)]
    exact (hnd j hj).2.2.1 q hq
  · rw [eg j 14 p (by omega) (by omega) (by omega) (by omega) (by omega), eg j 15 p (by omega) (by omega) (by omega) (by omega) (by omega)]
    exact (hnd j hj).2.2.2 p
  · rw [eg j 3 0 (by omega) (by omega) (by omega) (by omega) (by omega), eg j 4 0 (by omega) (by omega) (by omega) (by omega) (by omega)]
    obtain ⟨b3, b4, c8, c10⟩ := ht.1 j hj
    rw [g1_N]
    split
    · exact ⟨b3, b4, b8, b10⟩
    · exact ⟨b3, b4, by omega, by omega⟩
  · rw [eg j 16 p (by omega) (by omega) (by omega) (by omega) (by omega)] at hp
    rw [eg j 2 0 (by omega) (by omega) (by omega) (by omega) (by omega)]
    exact s1 j hj p hp
  · rw [eg k 2 0 (by omega) (by omega) (by omega) (by omega) (by omega)]
    exact s3 r k hk hr
  · rw [eg j 0 0 (by omega) (by omega) (by omega) (by omega) (by omega)] at hu
    rw [eg j 2 0 (by omega) (by omega) (by omega) (by omega) (by omega)]
    exact s5 j hj hu
  · rw [eg j 2 0 (by omega) (by omega) (by omega) (by omega) (by omega)] at h8
    rw [g1_N]
    split
    · rename_i q
      rw [q] at h8
      exact hid h8
    · exact s6 j hj h8
  · exact ⟨eg j 2 0 (by omega) (by omega) (by omega) (by omega) (by omega), eg j 3 0 (by omega) (by omega) (by omega) (by omega) (by omega), eg j 4 0 (by omega) (by omega) (by omega) (by omega) (by omega), eg j 5 0 (by omega) (by omega) (by omega) (by omega) (by omega)⟩
  · exact ⟨eg j 2 0 (by omega) (by omega) (by omega) (by omega) (by omega), eg j 4 0 (by omega) (by omega) (by omega) (by omega) (by omega), fun p => ⟨eg j 14 p (by omega) (by omega) (by omega) (by omega) (by omega), eg j 15 p (by omega) (by omega) (by omega) (by omega) (by omega), eJg j p⟩⟩
/-- ring r's holder, requests, fulls change -/
theorem W_ring {r : Nat} {R : nT} (h : gW n G t l) (e : ∀ f x, f ≠ 2 → f ≠ 4 → f ≠ 5 → R.1 f x = (G.2 r).1 f x) (eJ : ∀ x, R.2 6 x = (G.2 r).2 6 x) (b2 : R.1 2 0 ≤ n) (b4 : ∀ p, p < 101 → R.1 4 p < 2) (b5 : ∀ j, j < 8 → R.1 5 j ≤ 100) (c4 : ∀ p, p < 101 → R.1 4 p ≠ 0 → 1 ≤ p ∧ p ≤ (G.2 r).1 3 0) (c2 : ∀ k, k < n → R.1 2 0 = k + 1 → (G.1 k).1 2 0 = r) (d2 : r = 8 → R.1 2 0 = 0) : gW n (gR G r R) t l := by
  obtain ⟨hnd, hrg, ht, ⟨s1, s2, s3, s4, s5, s6⟩, hV, hK⟩ := h
  have eg : ∀ r' f x, f ≠ 2 → f ≠ 4 → f ≠ 5 → ((gR G r R).2 r').1 f x = (G.2 r').1 f x := fun r' f x a b c => by
    rw [g2_R]
    split
    · rename_i q; rw [q]; exact e f x a b c
    · rfl
  have eJg : ∀ r' x, ((gR G r R).2 r').2 6 x = (G.2 r').2 6 x := fun r' x => by
    rw [g2_R]
    split
    · rename_i q; rw [q]; exact eJ x
    · rfl
  refine ⟨hnd, fun r' => ⟨⟨?_, ?_, ?_⟩, ?_, ?_, fun p hp => ?_⟩, ⟨ht.1, fun r' => ?_⟩, ⟨fun j hj p hp => ?_, fun r' p hp hr => ?_, fun r' k hk hr => ?_, ⟨?_, ?_, ?_⟩, s5, s6⟩, iv_V_of hV (fun j hj => ⟨rfl, rfl, rfl, rfl⟩) (fun r' => ⟨eg r' 0 0 (by omega) (by omega) (by omega), eg r' 1 0 (by omega) (by omega) (by omega)⟩), iv_K_of hK (fun j hj => ⟨rfl, rfl, fun p => ⟨rfl, rfl, rfl⟩⟩) (fun r' => ⟨eg r' 0 0 (by omega) (by omega) (by omega), by rw [eg r' 3 0 (by omega) (by omega) (by omega)]; exact Nat.le_refl _, fun p _ => ⟨eg r' 7 p (by omega) (by omega) (by omega), eJg r' p⟩⟩)⟩
  · rw [eg r' 1 0 (by omega) (by omega) (by omega)]; exact (hrg r').1.1
  · rw [g2_R]
    split
    · exact b2
    · exact (hrg r').1.2.1
  · rw [eg r' 3 0 (by omega) (by omega) (by omega)]; exact (hrg r').1.2.2
  · rw [g2_R]
    split
    · exact b4
    · exact (hrg r').2.1
  · rw [g2_R]
    split
    · exact b5
    · exact (hrg r').2.2.1
  · rw [eg r' 6 p (by omega) (by omega) (by omega), eg r' 7 p (by omega) (by omega) (by omega), eg r' 8 p (by omega) (by omega) (by omega)]; exact (hrg r').2.2.2 p hp
  · rw [eg r' 0 0 (by omega) (by omega) (by omega)]; exact ht.2 r'
  · rw [eg _ 3 0 (by omega) (by omega) (by omega)]; exact s1 j hj p hp
  · rw [eg r' 3 0 (by omega) (by omega) (by omega)]
    rw [g2_R] at hr
    split at hr
    · rename_i q; rw [q]; exact c4 p hp hr
    · exact s2 r' p hp hr
  · rw [g2_R] at hr
    split at hr
    · rename_i q; rw [q]; exact c2 k hk hr
    · exact s3 r' k hk hr
  · rw [eg 8 0 0 (by omega) (by omega) (by omega)]; exact s4.1
  · rw [eg 8 1 0 (by omega) (by omega) (by omega)]; exact s4.2.1
  · rw [g2_R]
    split
    · rename_i q; exact d2 q.symm
    · exact s4.2.2
/-- a place comes to those whom P names -/
theorem W_give {P : Nat → Bool} {r p : Nat} (h : gW n G t l) (hr8 : r ≠ 8) (hP : ∀ j, j < n → P j = true → (G.1 j).1 2 0 = r) (hp1 : 1 ≤ p) (hp : p ≤ (G.2 r).1 3 0) : gW n (gGive G P r p n) t l := by
  obtain ⟨hnd, hrg, ht, ⟨s1, s2, s3, s4, s5, s6⟩, hV, hK⟩ := h
  have eg : ∀ j f x, f ≠ 16 → f ≠ 14 → f ≠ 15 → ((gGive G P r p n).1 j).1 f x = (G.1 j).1 f x := fun j f x a b c => gGive_ne _ _ _ _ _ _ _ a b c
  have hlast := (hrg r).1.2.2
  refine ⟨fun j hj => ⟨?_, ?_, fun q hq => ?_, fun x => ?_⟩, hrg, ⟨fun j hj => ?_, ht.2⟩, ⟨fun j hj x hx => ?_, s2, fun r k hk hr => ?_, s4, fun j hj hu => ?_, fun j hj h8 => ?_⟩, iv_V_of hV (fun j hj => ⟨eg j 2 0 (by omega) (by omega) (by omega), eg j 3 0 (by omega) (by omega) (by omega), eg j 4 0 (by omega) (by omega) (by omega), eg j 5 0 (by omega) (by omega) (by omega)⟩) (fun r => ⟨rfl, rfl⟩), iv_K_give hV hK hr8 hP hp n⟩
  · rw [eg j 0 0 (by omega) (by omega) (by omega), eg j 1 0 (by omega) (by omega) (by omega), eg j 2 0 (by omega) (by omega) (by omega), eg j 5 0 (by omega) (by omega) (by omega)]
    exact (hnd j hj).1
  · rw [eg j 6 0 (by omega) (by omega) (by omega), eg j 7 0 (by omega) (by omega) (by omega), eg j 9 0 (by omega) (by omega) (by omega), eg j 11 0 (by omega) (by omega) (by omega)]
    exact (hnd j hj).2.1
  · rw [eg j 11 0 (by omega) (by omega) (by omega)] at hq
    rw [eg j 12 q (by omega) (by omega) (by omega), eg j 13 q (by omega) (by omega) (by omega)]
    exact (hnd j hj).2.2.1 q hq
  · show (if j < n ∧ P j = true then nRecv (G.1 j) (G.2 r) p else G.1 j).1 14 x < 2 ∧ ((if j < n ∧ P j = true then nRecv (G.1 j) (G.2 r) p else G.1 j).1 14 x ≠ 0 → (if j < n ∧ P j = true then nRecv (G.1 j) (G.2 r) p else G.1 j).1 15 x < 16 ∧ x < 101)
    have b := (hnd j hj).2.2.2 x
    split
    · unfold nRecv
      split
      · show (if 14 = 15 ∧ x = p then (G.2 r).1 7 p else if 14 = 14 ∧ x = p then 1 else if 14 = 16 ∧ x = p then 1 else (G.1 j).1 14 x) < 2 ∧ ((if 14 = 15 ∧ x = p then (G.2 r).1 7 p else if 14 = 14 ∧ x = p then 1 else if 14 = 16 ∧ x = p then 1 else (G.1 j).1 14 x) ≠ 0 → (if 15 = 15 ∧ x = p then (G.2 r).1 7 p else if 15 = 14 ∧ x = p then 1 else if 15 = 16 ∧ x = p then 1 else (G.1 j).1 15 x) < 16 ∧ x < 101)
        have zp : p < 101 := by omega
        have z := ((hrg r).2.2.2 p (by omega)).2.1
        by_cases e : x = p
        · simp [e, z, zp]
        · simp [e]
          exact b
      · rw [n1_ne _ _ _ _ (by omega), n1_ne _ _ _ _ (by omega)]; exact b
    · exact b
  · rw [eg j 3 0 (by omega) (by omega) (by omega), eg j 4 0 (by omega) (by omega) (by omega), eg j 8 0 (by omega) (by omega) (by omega), eg j 10 0 (by omega) (by omega) (by omega)]; exact ht.1 j hj
  · rw [eg j 2 0 (by omega) (by omega) (by omega)]
    by_cases c : j < n ∧ P j = true
    · have e : (gGive G P r p n).1 j = nRecv (G.1 j) (G.2 r) p := if_pos c
      rw [e] at hx
      have hr := hP j hj c.2
      by_cases ex : x = p
      · rw [ex, hr]; exact ⟨hr8, hp1, hp⟩
      · refine s1 j hj x (fun z => hx ?_)
        unfold nRecv
        split
        · rw [n1_sJ, n1_ne _ _ _ _ (by omega), n1_ne _ _ _ _ (by omega), n1_sI, if_neg (fun y => ex y.2)]; exact z
        · rw [n1_sI, if_neg (fun y => ex y.2)]; exact z
    · have e : (gGive G P r p n).1 j = G.1 j := if_neg c
      rw [e] at hx
      exact s1 j hj x hx
  · rw [eg k 2 0 (by omega) (by omega) (by omega)]; exact s3 r k hk hr
  · rw [eg j 0 0 (by omega) (by omega) (by omega)] at hu
    rw [eg j 2 0 (by omega) (by omega) (by omega)]; exact s5 j hj hu
  · rw [eg j 2 0 (by omega) (by omega) (by omega)] at h8
    rw [eg j 6 0 (by omega) (by omega) (by omega), eg j 7 0 (by omega) (by omega) (by omega)]; exact s6 j hj h8
/-- node i's first waiting message gets the next place of its ring -/
theorem W_put {i r : Nat} (h : gW n G t l) (hi : i < n) (hi8 : i < 8) (hir : (G.1 i).1 2 0 = r) (hr8 : r ≠ 8) (hl : (G.2 r).1 3 0 < 100) (hc : (G.1 i).1 11 0 ≠ 0) : gW n (gR (gN G i (nShift (G.1 i))) r (rPut (G.2 r) i ((G.1 i).1 12 0) ((G.1 i).2 12 0) ((G.1 i).1 13 0))) t l := by
  obtain ⟨hnd, hrg, ht, ⟨s1, s2, s3, s4, s5, s6⟩, hV, hK⟩ := h
  generalize hG' : gR (gN G i (nShift (G.1 i))) r (rPut (G.2 r) i ((G.1 i).1 12 0) ((G.1 i).2 12 0) ((G.1 i).1 13 0)) = G'
  have eg : ∀ j f x, f ≠ 11 → f ≠ 12 → f ≠ 13 → (G'.1 j).1 f x = (G.1 j).1 f x := fun j f x a b c => by
    rw [← hG', g1_R, g1_N]
    split
    · rename_i q; rw [q]; exact nShift_ne _ _ a b c
    · rfl
  have eJg : ∀ j x, (G'.1 j).2 14 x = (G.1 j).2 14 x := fun j x => by
    rw [← hG', g1_R, g1_N]
    split
    · rename_i q; rw [q]; rfl
    · rfl
  have er : ∀ r' f x, f ≠ 3 → f ≠ 6 → f ≠ 7 → f ≠ 8 → (G'.2 r').1 f x = (G.2 r').1 f x := fun r' f x a b c d => by
    rw [← hG', g2_R]
    split
    · rename_i q; rw [q]; exact rPut_ne _ _ _ _ _ _ a b c d
    · rfl
  have e3 : ∀ r', (G'.2 r').1 3 0 = if r' = r then (G.2 r).1 3 0 + 1 else (G.2 r').1 3 0 := fun r' => by
    rw [← hG', g2_R]
    split
    · exact rPut_3 _ _ _ _ _
    · rfl
  have ep : ∀ r' x, ¬ (r' = r ∧ x = (G.2 r).1 3 0 + 1) → (G'.2 r').1 6 x = (G.2 r').1 6 x ∧ (G'.2 r').1 7 x = (G.2 r').1 7 x ∧ (G'.2 r').2 6 x = (G.2 r').2 6 x ∧ (G'.2 r').1 8 x = (G.2 r').1 8 x := fun r' x hx => by
    rw [← hG', g2_R]
    split
    · rename_i q
      obtain ⟨a, b, c, d⟩ := rPut_p (G.2 r) i ((G.1 i).1 12 0) ((G.1 i).2 12 0) ((G.1 i).1 13 0) x
      have hx' : x ≠ (G.2 r).1 3 0 + 1 := fun z => hx ⟨q, z⟩
      rw [if_neg hx'] at a b c d
      rw [q]
      exact ⟨a, b, c, d⟩
    · exact ⟨rfl, rfl, rfl, rfl⟩
  refine ⟨fun j hj => ⟨?_, ?_, fun q hq => ?_, fun x => ?_⟩, fun r' => ⟨⟨?_, ?_, ?_⟩, fun p hp => ?_, fun j hj => ?_, fun p hp => ?_⟩, ⟨fun j hj => ?_, fun r' => ?_⟩, ⟨fun j hj x hx => ?_, fun r' p hp hr => ?_, fun r' k hk hr => ?_, ⟨?_, ?_, ?_⟩, fun j hj hu => ?_, fun j hj h8 => ?_⟩, iv_V_of hV (fun j hj => ⟨eg j 2 0 (by omega) (by omega) (by omega), eg j 3 0 (by omega) (by omega) (by omega), eg j 4 0 (by omega) (by omega) (by omega), eg j 5 0 (by omega) (by omega) (by omega)⟩) (fun r' => ⟨er r' 0 0 (by omega) (by omega) (by omega) (by omega), er r' 1 0 (by omega) (by omega) (by omega) (by omega)⟩), iv_K_of hK (fun j hj => ⟨eg j 2 0 (by omega) (by omega) (by omega), eg j 4 0 (by omega) (by omega) (by omega), fun p => ⟨eg j 14 p (by omega) (by omega) (by omega), eg j 15 p (by omega) (by omega) (by omega), eJg j p⟩⟩) (fun r' => ⟨er r' 0 0 (by omega) (by omega) (by omega) (by omega), ?_, fun p hp => ?_⟩)⟩
  · rw [eg j 0 0 (by omega) (by omega) (by omega), eg j 1 0 (by omega) (by omega) (by omega), eg j 2 0 (by omega) (by omega) (by omega), eg j 5 0 (by omega) (by omega) (by omega)]
    exact (hnd j hj).1
  · rw [eg j 6 0 (by omega) (by omega) (by omega), eg j 7 0 (by omega) (by omega) (by omega), eg j 9 0 (by omega) (by omega) (by omega)]
    have b := (hnd j hj).2.1
    refine ⟨b.1, b.2.1, b.2.2.1, ?_⟩
    rw [← hG', g1_R, g1_N]
    split
    · rename_i q
      rw [q] at b
      show (G.1 i).1 11 0 - 1 ≤ 12
      omega
    · exact b.2.2.2
  · rw [← hG', g1_R, g1_N] at hq ⊢
    split at hq
    · rename_i z
      rw [if_pos z]
      have hq' : q < (G.1 i).1 11 0 - 1 := hq
      exact (hnd i hi).2.2.1 (q + 1) (by omega)
    · rename_i z
      rw [if_neg z]
      exact (hnd j hj).2.2.1 q hq
  · rw [eg j 14 x (by omega) (by omega) (by omega), eg j 15 x (by omega) (by omega) (by omega)]
    exact (hnd j hj).2.2.2 x
  · rw [er r' 1 0 (by omega) (by omega) (by omega) (by omega)]; exact (hrg r').1.1
  · rw [er r' 2 0 (by omega) (by omega) (by omega) (by omega)]; exact (hrg r').1.2.1
  · rw [e3]
    split
    · omega
    · exact (hrg r').1.2.2
  · rw [er r' 4 p (by omega) (by omega) (by omega) (by omega)]; exact (hrg r').2.1 p hp
  · rw [er r' 5 j (by omega) (by omega) (by omega) (by omega)]; exact (hrg r').2.2.1 j hj
  · by_cases c : r' = r ∧ p = (G.2 r).1 3 0 + 1
    · rw [← hG', g2_R, if_pos c.1]
      obtain ⟨a, b, -, d⟩ := rPut_p (G.2 r) i ((G.1 i).1 12 0) ((G.1 i).2 12 0) ((G.1 i).1 13 0) p
      rw [if_pos c.2] at a b d
      rw [a, b, d]
      have z := (hnd i hi).2.2.1 0 (by omega)
      exact ⟨hi8, z.1, z.2⟩
    · obtain ⟨a, b, -, d⟩ := ep r' p c
      rw [a, b, d]; exact (hrg r').2.2.2 p hp
  · rw [eg j 3 0 (by omega) (by omega) (by omega), eg j 4 0 (by omega) (by omega) (by omega), eg j 8 0 (by omega) (by omega) (by omega), eg j 10 0 (by omega) (by omega) (by omega)]; exact ht.1 j hj
  · rw [er r' 0 0 (by omega) (by omega) (by omega) (by omega)]; exact ht.2 r'
  · rw [eg j 16 x (by omega) (by omega) (by omega)] at hx
    rw [eg j 2 0 (by omega) (by omega) (by omega), e3]
    have z := s1 j hj x hx
    refine ⟨z.1, z.2.1, ?_⟩
    split
    · rename_i q; rw [q] at z; omega
    · exact z.2.2
  · rw [er r' 4 p (by omega) (by omega) (by omega) (by omega)] at hr
    have z := s2 r' p hp hr
    rw [e3]
    refine ⟨z.1, ?_⟩
    split
    · rename_i q; rw [q] at z; omega
    · exact z.2
  · rw [er r' 2 0 (by omega) (by omega) (by omega) (by omega)] at hr
    rw [eg k 2 0 (by omega) (by omega) (by omega)]; exact s3 r' k hk hr
  · rw [er 8 0 0 (by omega) (by omega) (by omega) (by omega)]; exact s4.1
  · rw [er 8 1 0 (by omega) (by omega) (by omega) (by omega)]; exact s4.2.1
  · rw [er 8 2 0 (by omega) (by omega) (by omega) (by omega)]; exact s4.2.2
  · rw [eg j 0 0 (by omega) (by omega) (by omega)] at hu
    rw [eg j 2 0 (by omega) (by omega) (by omega)]; exact s5 j hj hu
  · rw [eg j 2 0 (by omega) (by omega) (by omega)] at h8
    rw [eg j 6 0 (by omega) (by omega) (by omega), eg j 7 0 (by omega) (by omega) (by omega)]; exact s6 j hj h8
  · rw [e3]
    split
    · rename_i q; rw [q]; omega
    · exact Nat.le_refl _
  · obtain ⟨-, b, c, -⟩ := ep r' p (fun z => by rw [z.1] at hp; omega)
    exact ⟨b, c⟩
end
