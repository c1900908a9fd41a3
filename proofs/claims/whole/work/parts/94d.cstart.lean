/-! the class's cells, once made, show the first state; the first state keeps what holds between calls -/
def N0 (n : Nat) : nT := (fun f j => if f = 0 ∧ j = 0 then 1 else if f = 2 ∧ j = 0 then 8 else if f = 5 ∧ j = 0 then 2 ^ n - 1 else 0, fun _ _ => 0)
def R00 : nT := (fun _ _ => 0, fun _ _ => 0)
def G0 (n : Nat) : gT := (fun _ => N0 n, fun _ => R00)
theorem N0_z (n : Nat) {f : Nat} (j : Nat) (h0 : f ≠ 0) (h2 : f ≠ 2) (h5 : f ≠ 5) : (N0 n).1 f j = 0 := by
  show (if f = 0 ∧ j = 0 then 1 else if f = 2 ∧ j = 0 then 8 else if f = 5 ∧ j = 0 then 2 ^ n - 1 else 0) = 0
  rw [if_neg (fun z => h0 z.1), if_neg (fun z => h2 z.1), if_neg (fun z => h5 z.1)]
theorem N0_0 (n : Nat) : (N0 n).1 0 0 = 1 := rfl
theorem N0_2 (n : Nat) : (N0 n).1 2 0 = 8 := rfl
theorem N0_5 (n : Nat) : (N0 n).1 5 0 = 2 ^ n - 1 := rfl
theorem W_0 {n : Nat} (hn : 2 ≤ n ∧ n ≤ 8) : gW n (G0 n) 0 0 := by
  have hp : 4 ≤ 2 ^ n := Nat.pow_le_pow_right (n := 2) (by omega) (by omega : 2 ≤ n)
  refine ⟨fun j hj => ⟨⟨?_, ?_, Or.inr rfl, ?_, ?_⟩, ⟨?_, ?_, ?_, ?_⟩, fun q hq => ?_, fun p => ⟨?_, fun z => ?_⟩⟩, fun r => ⟨⟨?_, Nat.zero_le _, Nat.zero_le _⟩, fun p _ => Nat.zero_lt_two, fun j _ => Nat.zero_le _, fun p _ => ⟨by show 0 < 8; omega, by show 0 < 16; omega, by show 0 < 2; omega⟩⟩, ⟨fun j hj => ⟨?_, ?_, ?_, ?_⟩, fun r => Nat.le_refl _⟩, ⟨fun j hj p z => absurd (N0_z n p (by omega) (by omega) (by omega)) z, fun r p _ z => absurd rfl z, fun r h _ z => ?_, ⟨rfl, rfl, rfl⟩, fun j hj z => ?_, fun j hj _ => ⟨N0_z n 0 (by omega) (by omega) (by omega), N0_z n 0 (by omega) (by omega) (by omega)⟩⟩, ⟨fun j hj h8 => absurd rfl h8, fun j hj h8 => absurd rfl h8, fun j hj => ?_, fun i j hi hj _ => rfl, fun i j hi hj h8 => absurd rfl h8, fun j hj h8 => absurd rfl h8, fun i j hi hj h8 => absurd rfl h8, fun i k hi hk z => ?_⟩, ⟨fun i j hi hj p _ z => absurd (N0_z n p (by omega) (by omega) (by omega)) z, fun i j hi hj p h8 => absurd rfl h8⟩⟩
  · show 1 < 2; omega
  · show (N0 n).1 1 0 < 8; rw [N0_z n 0 (by omega) (by omega) (by omega)]; omega
  · show 2 ^ n - 1 < 2 ^ n; omega
  · show 2 ^ n - 1 ≠ 0; omega
  · show (N0 n).1 6 0 ≤ 100; rw [N0_z n 0 (by omega) (by omega) (by omega)]; omega
  · show (N0 n).1 7 0 ≤ 100; rw [N0_z n 0 (by omega) (by omega) (by omega)]; omega
  · show (N0 n).1 9 0 ≤ 100; rw [N0_z n 0 (by omega) (by omega) (by omega)]; omega
  · show (N0 n).1 11 0 ≤ 12; rw [N0_z n 0 (by omega) (by omega) (by omega)]; omega
  · have hq : q < (N0 n).1 11 0 := hq
    rw [N0_z n 0 (by omega) (by omega) (by omega)] at hq; omega
  · show (N0 n).1 14 p < 2; rw [N0_z n p (by omega) (by omega) (by omega)]; omega
  · exact absurd (N0_z n p (by omega) (by omega) (by omega)) z
  · show 0 < 2 ^ n; omega
  · show (N0 n).1 3 0 ≤ 0; rw [N0_z n 0 (by omega) (by omega) (by omega)]; omega
  · show (N0 n).1 4 0 ≤ 0; rw [N0_z n 0 (by omega) (by omega) (by omega)]; omega
  · show (N0 n).1 8 0 ≤ 0; rw [N0_z n 0 (by omega) (by omega) (by omega)]; omega
  · show (N0 n).1 10 0 ≤ 0; rw [N0_z n 0 (by omega) (by omega) (by omega)]; omega
  · have z : 0 = h + 1 := z
    omega
  · have z : 1 = 0 := z
    omega
  · show (N0 n).1 4 0 ≤ (N0 n).1 3 0
    rw [N0_z n 0 (by omega) (by omega) (by omega)]; omega
  · exact absurd z (Nat.lt_irrefl _)
def apos (n t i : Nat) : Nat := if t = 0 then 0 else if t < 3 then t + 3 else if t < 12 then 6 + 12 * i + (t - 3) else if i < n then 6 + 12 * i + 9 + (t - 12) else 1 + (t - 12)
def adP (Z : zZ) (n t i : Nat) : Nat := zPa Z (apos n t i)
theorem ap_a {n t : Nat} (i : Nat) (h : t < 3) : (t = 0 ∧ apos n t i = 0) ∨ (t = 1 ∧ apos n t i = 4) ∨ (t = 2 ∧ apos n t i = 5) := by
  unfold apos
  by_cases e : t = 0
  · rw [if_pos e]; exact Or.inl ⟨e, rfl⟩
  · rw [if_neg e, if_pos h]; omega
theorem ap_n {n t : Nat} (i : Nat) (h : 3 ≤ t) (h2 : t < 12) : apos n t i = 6 + 12 * i + (t - 3) := by
  unfold apos
  rw [if_neg (by omega), if_neg (by omega), if_pos h2]
theorem ap_r {n t i : Nat} (h : 12 ≤ t) (hi : i < n) : apos n t i = 6 + 12 * i + 9 + (t - 12) := by
  unfold apos
  rw [if_neg (by omega), if_neg (by omega), if_neg (by omega), if_pos hi]
theorem ap_8 {n t i : Nat} (h : 12 ≤ t) (hi : ¬ i < n) : apos n t i = 1 + (t - 12) := by
  unfold apos
  rw [if_neg (by omega), if_neg (by omega), if_neg (by omega), if_neg hi]
theorem ap_inj {n t i t' i' : Nat} (hn : n ≤ 8) (h : usdb n t i = true) (h' : usdb n t' i' = true) (e : apos n t i = apos n t' i') : t = t' ∧ i = i' := by
  have key : ∀ t i, usdb n t i = true → (t < 3 ∧ i = 0 ∧ ((t = 0 ∧ apos n t i = 0) ∨ (t = 1 ∧ apos n t i = 4) ∨ (t = 2 ∧ apos n t i = 5))) ∨ (3 ≤ t ∧ t < 12 ∧ apos n t i = 6 + 12 * i + (t - 3)) ∨ (12 ≤ t ∧ t < 15 ∧ apos n t i = 6 + 12 * i + 9 + (t - 12)) ∨ (12 ≤ t ∧ t < 15 ∧ i = 8 ∧ apos n t i = 1 + (t - 12)) := fun t i h => by
    rcases usdb_iff.mp h with ⟨a, b⟩ | ⟨a, b, c⟩ | ⟨a, b, c⟩
    · exact Or.inl ⟨a, b, ap_a i a⟩
    · exact Or.inr (Or.inl ⟨a, b, ap_n i a b⟩)
    · by_cases d : i < n
      · exact Or.inr (Or.inr (Or.inl ⟨a, b, ap_r a d⟩))
      · rcases c with c | c
        · exact absurd c d
        · exact Or.inr (Or.inr (Or.inr ⟨a, b, c, ap_8 a d⟩))
  have a := key t i h
  have b := key t' i' h'
  rw [e] at a
  generalize apos n t' i' = x at *
  rcases a with a | a | a | a
  · rcases b with b | b | b | b <;> omega
  · rcases b with b | b | b | b <;> omega
  · rcases b with b | b | b | b <;> omega
  · rcases b with b | b | b | b <;> omega
section
variable {Z : zZ} {S : zS} {p a n w : Nat} {r : zrc}
theorem sc_i (o : zOc Z S p a r) (f : Nat) : zI S a f = r.2.1 f := by
  have := zOb_I o.1 f
  rw [o.2] at this
  exact this
theorem sc_j (o : zOc Z S p a r) (f : Nat) : zJ S a f = r.2.2.1 f := by
  have := zOb_J o.1 f
  rw [o.2] at this
  exact this
theorem sc_r (o : zOc Z S p a r) (f : Nat) : zR S a f = r.2.2.2 f := by
  have := zOb_R o.1 f
  rw [o.2] at this
  exact this
theorem pRG_z (h : pRG Z S p) : zk Z (zPa Z p) 5 ∧ zQ Z (zPa Z p) 0 = some (zPa Z (p + 1)) ∧ zQ Z (zPa Z p) 1 = some (zPa Z (p + 2)) ∧ zk Z (zPa Z (p + 1)) 10 ∧ zN Z (zPa Z (p + 1)) = 101 ∧ zk Z (zPa Z (p + 2)) 8 ∧ zN Z (zPa Z (p + 2)) = 8 := by
  obtain ⟨d, c13, c14, o0, o1, o2⟩ := h
  rw [o0.2, o1.2, o2.2]
  exact ⟨sc_k o0 rfl, (sc_q o0 0).trans rfl, (sc_q o0 1).trans rfl, sc_k o1 rfl, sc_N o1 (kh := 10) rfl, sc_k o2 rfl, sc_N o2 (kh := 8) rfl⟩
theorem pRG_r (h : pRG Z S p) : ((zI S (zPa Z p) 2 = 0 ∧ zI S (zPa Z p) 3 = 0 ∧ zI S (zPa Z p) 4 = -1 ∧ zI S (zPa Z p) 5 = 0) ∧ (∀ q, zI S (zPa Z (p + 1)) q = 0) ∧ ∀ j, zI S (zPa Z (p + 2)) j = 0) := by
  obtain ⟨d, c13, c14, o0, o1, o2⟩ := h
  rw [o0.2, o1.2, o2.2]
  exact ⟨⟨(sc_i o0 2).trans rfl, (sc_i o0 3).trans rfl, (sc_i o0 4).trans rfl, (sc_i o0 5).trans rfl⟩, fun q => (sc_i o1 q).trans rfl, fun j => (sc_i o2 j).trans rfl⟩
/-- the class's first state -/
theorem c_start (ok : zok Z) (hn : 2 ≤ n ∧ n ≤ 8) (hm : 6 + 12 * n ≤ zPm Z) (h : pCL Z S n w a n) : ∃ ad, zCV Z S ad n w S (G0 n) ∧ ad 0 0 = a ∧ (∀ t i, usdb n t i = true → ∃ q, q < 6 + 12 * n ∧ ad t i = zPa Z q) ∧ ∀ t i, usdb n t i = false → ad t i ∉ zL Z := by
  obtain ⟨M, hM⟩ := lst_bd (zL Z)
  obtain ⟨b7, b18, b29, q1, q2, o0, o4, o5, ⟨o1, o1'⟩, on⟩ := h
  have e0 : zPa Z 0 = a := o0.2
  have e4 : zPa Z 4 = b18 := o4.2
  have e5 : zPa Z 5 = b29 := o5.2
  have a0 : apos n 0 0 = 0 := rfl
  have a1 : apos n 1 0 = 4 := rfl
  have a2 : apos n 2 0 = 5 := rfl
  have a8 : ∀ t, 12 ≤ t → apos n t 8 = 1 + (t - 12) := fun t ht => ap_8 ht (by omega)
  -- a ring's place
  have hrg : ∀ r, zri n r → ∃ p, p + 2 < 6 + 12 * n ∧ pRG Z S p ∧ apos n 12 r = p ∧ apos n 13 r = p + 1 ∧ apos n 14 r = p + 2 := fun r hr => by
    rcases hr with hr | rfl
    · exact ⟨6 + 12 * r + 9, by omega, (on r hr).2.2.2, ap_r (by omega) hr, ap_r (by omega) hr, ap_r (by omega) hr⟩
    · exact ⟨1, by omega, o1, a8 12 (by omega), a8 13 (by omega), a8 14 (by omega)⟩
  have hSh : zSh Z (adP Z n) n := by
    refine ⟨⟨?_, ?_, ?_, ?_⟩, ⟨?_, ?_, ?_, ?_⟩, fun i hi => ⟨?_, ?_, ?_⟩, fun r hr => ?_, hn⟩
    · show zk Z (zPa Z (apos n 0 0)) 6
      rw [a0, e0]; exact sc_k o0 rfl
    · show zQ Z (zPa Z (apos n 0 0)) 1 = some (zPa Z (apos n 1 0))
      rw [a0, a1, e0, e4]; exact (sc_q o0 1).trans rfl
    · show zQ Z (zPa Z (apos n 0 0)) 2 = some (zPa Z (apos n 2 0))
      rw [a0, a2, e0, e5]; exact (sc_q o0 2).trans rfl
    · show zQ Z (zPa Z (apos n 0 0)) 3 = some (zPa Z (apos n 12 8))
      rw [a0, a8 12 (by omega), e0]
      show _ = some (zPa Z 1)
      rw [o1']; exact (sc_q o0 3).trans rfl
    · show zk Z (zPa Z (apos n 1 0)) 12
      rw [a1, e4]; exact sc_k o4 rfl
    · show zN Z (zPa Z (apos n 1 0)) = n
      rw [a1, e4]; exact sc_N o4 (kh := 12) rfl
    · show zk Z (zPa Z (apos n 2 0)) 13
      rw [a2, e5]; exact sc_k o5 rfl
    · show zN Z (zPa Z (apos n 2 0)) = n
      rw [a2, e5]; exact sc_N o5 (kh := 13) rfl
    · show zQ Z (zPa Z (apos n 1 0)) i = some (zPa Z (apos n 3 i))
      rw [a1, e4, ap_n i (by omega) (by omega)]
      exact (sc_q o4 i).trans (on i hi).1
    · show zQ Z (zPa Z (apos n 2 0)) i = some (zPa Z (apos n 12 i))
      rw [a2, e5, ap_r (by omega) hi]
      exact (sc_q o5 i).trans (on i hi).2.1
    · obtain ⟨d, b4, c5, b6, c7, c8, b9, c10, c11, u0, u1, u2, u3, u4, u5, u6, u7, u8⟩ := (on i hi).2.2.1
      unfold zNd
      have f3 : adP Z n 3 i = d := u0.2
      have f4 : adP Z n 4 i = b4 := u1.2
      have f5 : adP Z n 5 i = c5 := u2.2
      have f6 : adP Z n 6 i = b6 := u3.2
      have f7 : adP Z n 7 i = c7 := u4.2
      have f8 : adP Z n 8 i = c8 := u5.2
      have f9 : adP Z n 9 i = b9 := u6.2
      have f10 : adP Z n 10 i = c10 := u7.2
      have f11 : adP Z n 11 i = c11 := u8.2
      rw [f3, f4, f5, f6, f7, f8, f9, f10, f11]
      exact ⟨⟨sc_k u0 rfl, (sc_q u0 1).trans rfl, (sc_q u0 2).trans rfl, (sc_q u0 3).trans rfl, (sc_q u0 4).trans rfl⟩, ⟨sc_k u1 rfl, (sc_q u1 0).trans rfl, sc_k u2 rfl, sc_N u2 (kh := 11) rfl⟩, ⟨sc_k u3 rfl, (sc_q u3 0).trans rfl, (sc_q u3 1).trans rfl, sc_k u4 rfl, sc_N u4 (kh := 9) rfl, sc_k u5 rfl, sc_N u5 (kh := 11) rfl⟩, ⟨sc_k u6 rfl, (sc_q u6 0).trans rfl, sc_k u7 rfl, sc_N u7 (kh := 9) rfl⟩, sc_k u8 rfl, sc_N u8 (kh := 11) rfl⟩
    · obtain ⟨p, -, hp, x1, x2, x3⟩ := hrg r hr
      have y1 : adP Z n 12 r = zPa Z p := congrArg (zPa Z) x1
      have y2 : adP Z n 13 r = zPa Z (p + 1) := congrArg (zPa Z) x2
      have y3 : adP Z n 14 r = zPa Z (p + 2) := congrArg (zPa Z) x3
      unfold zRg
      rw [y1, y2, y3]
      exact pRG_z hp
  have hlt : ∀ t i, usdb n t i = true → apos n t i < 6 + 12 * n := fun t i hu => by
    rcases usdb_iff.mp hu with ⟨x, y⟩ | ⟨x, y, z⟩ | ⟨x, y, z⟩
    · have := ap_a (n := n) i x; omega
    · rw [ap_n i x y]; omega
    · rcases z with z | z
      · rw [ap_r x z]; omega
      · rw [z, a8 t x]; omega
  have hCs : zCs Z (adx M n (adP Z n)) n := zCs_adx hSh hM (fun t i t' i' h h' e => ap_inj hn.2 h h' (ok _ _ (by have := hlt t i h; omega) (by have := hlt t' i' h'; omega) e))
  refine ⟨_, ⟨hCs, ?_, fun i hi => ⟨?_, Or.inr rfl⟩, fun r hr => ?_, fun a _ => zAt_rf _ _⟩, ?_, fun t i hu => ⟨apos n t i, hlt t i hu, adx_u hu⟩, fun t i hu hin => ?_⟩
  · rw [adx_u (usdb_iff.mpr (Or.inl ⟨by omega, rfl⟩))]
    show zI S (zPa Z 0) 0 = nI w
    rw [e0]; exact (sc_i o0 0).trans rfl
  · have e : ∀ t, 3 ≤ t → t < 12 → adx M n (adP Z n) t i = zPa Z (6 + 12 * i + (t - 3)) := fun t h1 h2 => (adx_u (usdb_iff.mpr (Or.inr (Or.inl ⟨h1, h2, hi⟩)))).trans (congrArg (zPa Z) (ap_n i h1 h2))
    have e8 : adx M n (adP Z n) 12 8 = zPa Z 1 := (adx_u (usdb_iff.mpr (Or.inr (Or.inr ⟨by omega, by omega, Or.inr rfl⟩)))).trans (congrArg (zPa Z) (a8 12 (by omega)))
    obtain ⟨d, b4, c5, b6, c7, c8, b9, c10, c11, u0, u1, u2, u3, u4, u5, u6, u7, u8⟩ := (on i hi).2.2.1
    have f3 : adx M n (adP Z n) 3 i = d := (e 3 (by omega) (by omega)).trans u0.2
    have f4 : adx M n (adP Z n) 4 i = b4 := (e 4 (by omega) (by omega)).trans u1.2
    have f5 : adx M n (adP Z n) 5 i = c5 := (e 5 (by omega) (by omega)).trans u2.2
    have f6 : adx M n (adP Z n) 6 i = b6 := (e 6 (by omega) (by omega)).trans u3.2
    have f7 : adx M n (adP Z n) 7 i = c7 := (e 7 (by omega) (by omega)).trans u4.2
    have f8 : adx M n (adP Z n) 8 i = c8 := (e 8 (by omega) (by omega)).trans u5.2
    have f9 : adx M n (adP Z n) 9 i = b9 := (e 9 (by omega) (by omega)).trans u6.2
    have f10 : adx M n (adP Z n) 10 i = c10 := (e 10 (by omega) (by omega)).trans u7.2
    have f11 : adx M n (adP Z n) 11 i = c11 := (e 11 (by omega) (by omega)).trans u8.2
    generalize adx M n (adP Z n) = ad at *
    refine ⟨⟨?_, fun f hf h2 => ?_⟩, ?_, ⟨?_, fun k _ => ?_, fun q _ => ?_⟩, fun k hk => ?_, fun p _ => ⟨fun _ => ?_, fun z => absurd (N0_z n p (by omega) (by omega) (by omega)) z⟩, fun p _ => ⟨fun _ => ?_, fun z => absurd (N0_z n p (by omega) (by omega) (by omega)) z⟩⟩
    · rw [f3]; exact (sc_i u0 0).trans rfl
    · have hc : f = 0 ∨ f = 1 ∨ f = 3 ∨ f = 4 ∨ f = 5 ∨ f = 6 ∨ f = 7 ∨ f = 8 ∨ f = 9 ∨ f = 10 ∨ f = 11 := by omega
      rcases hc with rfl | rfl | rfl | rfl | rfl | rfl | rfl | rfl | rfl | rfl | rfl
      · show zI S (ad 3 i) 5 = nI 1
        rw [f3]; exact (sc_i u0 5).trans rfl
      · show zI S (ad 3 i) 6 = nI 0
        rw [f3]; exact (sc_i u0 6).trans rfl
      · show zI S (ad 3 i) 8 = nI 0
        rw [f3]; exact (sc_i u0 8).trans rfl
      · show zI S (ad 3 i) 9 = nI 0
        rw [f3]; exact (sc_i u0 9).trans rfl
      · show zI S (ad 3 i) 10 = nI (2 ^ n - 1)
        rw [f3]; exact (sc_i u0 10).trans rfl
      · show zI S (ad 3 i) 11 = nI 0
        rw [f3]; exact (sc_i u0 11).trans rfl
      · show zI S (ad 3 i) 12 = nI 0
        rw [f3]; exact (sc_i u0 12).trans rfl
      · show zI S (ad 6 i) 2 = nI 0
        rw [f6]; exact (sc_i u3 2).trans rfl
      · show zI S (ad 6 i) 4 = nI 0
        rw [f6]; exact (sc_i u3 4).trans rfl
      · show zI S (ad 9 i) 1 = nI 0
        rw [f9]; exact (sc_i u6 1).trans rfl
      · show zI S (ad 4 i) 1 = nI 0
        rw [f4]; exact (sc_i u1 1).trans rfl
    · show zR S (ad 3 i) 7 = some (ad 12 8)
      rw [f3, e8, o1']; exact (sc_r u0 7).trans rfl
    · rw [f6]; exact (sc_j u3 3).trans rfl
    · rw [f7]; exact (sc_j u4 k).trans rfl
    · rw [f10]; exact (sc_j u7 q).trans rfl
    · exact absurd hk (Nat.not_lt_zero k)
    · rw [f8]; exact (sc_r u5 p).trans rfl
    · rw [f11]; exact (sc_r u8 p).trans rfl
  · have e : ∀ t, 12 ≤ t → t < 15 → adx M n (adP Z n) t r = zPa Z (apos n t r) := fun t h1 h2 => adx_u (usdb_iff.mpr (Or.inr (Or.inr ⟨h1, h2, hr⟩)))
    obtain ⟨p, -, hp, x1, x2, x3⟩ := hrg r hr
    unfold zCr
    rw [e 12 (by omega) (by omega), e 13 (by omega) (by omega), e 14 (by omega) (by omega), x1, x2, x3]
    obtain ⟨⟨y1, y2, y3, y4⟩, y5, y6⟩ := pRG_r hp
    exact ⟨⟨y1, y2, y3, y4⟩, fun q _ => y5 q, fun j _ => y6 j⟩
  · rw [adx_u (usdb_iff.mpr (Or.inl ⟨by omega, rfl⟩))]
    exact e0
  · have := hM _ hin
    unfold adx at this
    rw [if_neg (by rw [hu]; decide)] at this
    omega
end
