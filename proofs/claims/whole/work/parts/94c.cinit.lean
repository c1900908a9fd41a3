/-! the class is made -/
theorem clamp_n (lo x : Int32) (a : Nat) (hlo : lo = nI a) (ha : a < 3) : ∃ n, a ≤ n ∧ n ≤ 8 ∧ (∀ y1 y2 : Int32, y1 = (if x < 8 then x else 8) → y2 = (if lo < y1 then y1 else lo) → y2 = nI n) ∧ (lo ≤ x → x ≤ 8 → x = nI n) ∧ (lo ≤ x → ¬ x ≤ 8 → n = 8) ∧ (¬ lo ≤ x → n = a) := by
  subst hlo
  have e8 : (8 : Int32) = nI 8 := rfl
  rcases pk_ix x (n := 9) (by omega) with h | h | ⟨j, hj, rfl⟩
  · have h0 : ¬ (nI a ≤ x) := fun z => absurd (Int32.lt_of_le_of_lt z h) (nI_pos (by omega))
    refine ⟨a, Nat.le_refl _, by omega, fun y1 y2 h1 h2 => ?_, fun z => absurd z h0, fun z => absurd z h0, fun _ => rfl⟩
    have hx8 : x < 8 := Int32.lt_trans h (by decide)
    rw [if_pos hx8] at h1
    subst h1
    rw [h2, if_neg (fun z => h0 (Int32.le_of_lt z))]
  · have h1 : nI 8 < x := Int32.lt_of_lt_of_le (by decide) h
    have h2 : ¬ x < 8 := fun z => absurd (Int32.lt_trans h1 z) (by decide)
    have h3 : nI a ≤ x := Int32.le_trans ((nI_leI (by omega) (by omega)).mpr (by omega : a ≤ 8)) (Int32.le_of_lt h1)
    refine ⟨8, by omega, by omega, fun y1 y2 q1 q2 => ?_, fun _ z => absurd (Int32.lt_of_lt_of_le h1 z) (by decide), fun _ _ => rfl, fun z => absurd h3 z⟩
    rw [if_neg h2] at q1
    subst q1
    rw [q2, e8, if_pos ((nI_ltI (by omega) (by omega)).mpr (by omega))]
  · have l1 : nI j < 8 ↔ j < 8 := nI_ltI (b := 8) (by omega) (by omega)
    have l2 : nI a ≤ nI j ↔ a ≤ j := nI_leI (by omega) (by omega)
    have l3 : nI j ≤ 8 ↔ j ≤ 8 := nI_leI (b := 8) (by omega) (by omega)
    have l4 : nI a < nI j ↔ a < j := nI_ltI (by omega) (by omega)
    by_cases c : a ≤ j
    · refine ⟨j, c, by omega, fun y1 y2 q1 q2 => ?_, fun _ _ => rfl, fun _ z => absurd (l3.mpr (by omega)) z, fun z => absurd (l2.mpr c) z⟩
      have e1 : y1 = nI j := by
        rw [q1]
        by_cases d : j < 8
        · rw [if_pos (l1.mpr d)]
        · rw [if_neg (fun z => d (l1.mp z))]
          have : j = 8 := by omega
          rw [this]; rfl
      rw [q2, e1]
      by_cases d : a < j
      · rw [if_pos (l4.mpr d)]
      · rw [if_neg (fun z => d (l4.mp z))]
        have : a = j := by omega
        rw [this]
    · refine ⟨a, Nat.le_refl _, by omega, fun y1 y2 q1 q2 => ?_, fun z => absurd (l2.mp z) c, fun z => absurd (l2.mp z) c, fun _ => rfl⟩
      rw [if_pos (l1.mpr (by omega))] at q1
      rw [q2, q1, if_neg (fun z => by have := l4.mp z; omega)]
section
variable {Z Z' Z3 Z7 : zZ} {S S' S4 : zS} {p a b f kh nh k n w h : Nat} {r : zrc} {Qp : zZ → zS → Prop}
theorem sc_N (o : zOc Z S p a r) (er : r.1.1 = (kh, nh)) : zN Z a = nh := by
  have := (zOb_k o.1 er).2
  rw [o.2] at this
  exact this
theorem sc_q (o : zOc Z S p a r) (f : Nat) : zQ Z a f = r.1.2 f := by
  have := zOb_Q o.1 f
  rw [o.2] at this
  exact this
def r6 (w b7 b18 b29 : Nat) : zrc := zwQ (zwQ (zwQ (zwI (zr0 6 4) 0 (nI w)) 3 (some b7)) 1 (some b18)) 2 (some b29)
def rQ (k n : Nat) (q : Nat → Option Nat) : zrc := (((k, n), q), fun _ => 0, fun _ => 0, fun _ => none)
/-- the class's cells as they are made: m nodes, m rings -/
def pJ (Z : zZ) (S : zS) (n m b7 : Nat) (q1 q2 : Nat → Option Nat) : Prop := (pRG Z S 1 ∧ zPa Z 1 = b7) ∧ ∀ j, j < m → q1 j = some (zPa Z (6 + 12 * j)) ∧ q2 j = some (zPa Z (6 + 12 * j + 9)) ∧ pND Z S (6 + 12 * j) j (nI (2 ^ n - 1)) b7 ∧ pRG Z S (6 + 12 * j + 9)
def pCL (Z : zZ) (S : zS) (n w a m : Nat) : Prop := ∃ b7 b18 b29 q1 q2, zOc Z S 0 a (r6 w b7 b18 b29) ∧ zOc Z S 4 b18 (rQ 12 n q1) ∧ zOc Z S 5 b29 (rQ 13 n q2) ∧ pJ Z S n m b7 q1 q2
theorem pND_lt {i rn : Nat} {all : Int32} (o : pND Z S p i all rn) : p + 8 < zPm Z := by
  obtain ⟨d, b4, c5, b6, c7, c8, b9, c10, c11, o0, o1, o2, o3, o4, o5, o6, o7, o8⟩ := o
  exact zOc_lt o8
theorem pRG_lt (o : pRG Z S p) : p + 2 < zPm Z := by
  obtain ⟨d, c13, c14, o0, o1, o2⟩ := o
  exact zOc_lt o2
theorem pJ_X {m b7 : Nat} {q1 q2 : Nat → Option Nat} (x : zX h Z Z' S S') (o : pJ Z S n m b7 q1 q2) (hp : h = 4 ∨ h = 5 ∨ 6 + 12 * m ≤ h) : pJ Z' S' n m b7 q1 q2 := by
  obtain ⟨⟨o1, o1'⟩, on⟩ := o
  refine ⟨⟨pRG_X x o1 (by omega), (x.2 1 (by have := pRG_lt o1; omega)).1.trans o1'⟩, fun j hj => ?_⟩
  obtain ⟨a1, a2, a3, a4⟩ := on j hj
  refine ⟨?_, ?_, pND_X x a3 (by omega), pRG_X x a4 (by omega)⟩
  · rw [(x.2 _ (by have := pND_lt a3; omega)).1]; exact a1
  · rw [(x.2 _ (by have := pRG_lt a4; omega)).1]; exact a2
theorem pCL_X {m : Nat} (x : zX h Z Z' S S') (o : pCL Z S n w a m) (hp : 6 + 12 * m ≤ h) : pCL Z' S' n w a m := by
  obtain ⟨b7, b18, b29, q1, q2, o0, o4, o5, on⟩ := o
  exact ⟨b7, b18, b29, q1, q2, zOc_X x o0 (by omega), zOc_X x o4 (by omega), zOc_X x o5 (by omega), pJ_X x on (Or.inr (Or.inr hp))⟩
theorem k_X6 (ok : zok Z) (o : zOc Z S 0 a (zr0 6 4)) (hm : zPm Z = 1) {p0 p1 : Int32} {n w : Nat} (hn : 2 ≤ n ∧ n ≤ 8) (hnn : ∀ y1 y2 : Int32, y1 = (if p0 < 8 then p0 else 8) → y2 = (if 2 < y1 then y1 else 2) → y2 = nI n) (hww : ∀ y1 y2 : Int32, y1 = (if p1 < 8 then p1 else 8) → y2 = (if 1 < y1 then y1 else 1) → y2 = nI w) (k : ∀ Z' S', zok Z' → zPm Z' = 6 + 12 * n → pCL Z' S' n w a n → Qp Z' S') : w_X6_init Z a p0 p1 S Qp := by
  unfold w_X6_init
  intro y1 e1 y2 e2 y3 e3 y4 e4
  have e2 := hnn y1 y2 e1 e2
  have e4 := hww y3 y4 e3 e4
  subst e2 e4
  refine ⟨sc_k o rfl, fun S6 e6 b7 hb7 Z9 S10 e9 e10 => ?_⟩
  obtain ⟨x1, o⟩ := sc_I ok o e6
  obtain ⟨a1, a2, a3, a4⟩ := sc_al (zPm Z) ok hb7 e9 e10
  rw [hm] at a2 a3 a4
  have o := zOc_X a3 o (by omega)
  refine k_X5 a1 a4 rfl (fun Z14 S13 c d c1 c2 c3 c4 c5 c6 => ?_)
  rw [a2] at c2 c4 c5
  have o := zOc_X c3 o (by omega)
  refine ⟨sc_k o rfl, fun Z16 e16 => ?_⟩
  obtain ⟨d1, d2, d3, o⟩ := sc_Q c1 o e16
  have q1 := zOc_X d3 c6 (by omega)
  have q2 := zOc_X d3 c4 (by omega)
  have q3 := zOc_X d3 c5 (by omega)
  have hy : ¬ (nI n) < 0 := nI_pos (by omega)
  have hc : (nI n).toNatClampNeg = n := nI_clamp (by omega)
  rw [hc]
  refine ⟨hy, hn.2, fun b18 hb18 Z20 S21 e20 e21 Z26 e26 => ?_⟩
  obtain ⟨-, y⟩ := sc_arr (f := 1) (nh := 4) (kh := 6) d1 o rfl hb18 e20 e21
  obtain ⟨f1, f2, f3, q4, o⟩ := y Z26 e26
  have q1 := zOc_X f3 q1 (by omega)
  have q2 := zOc_X f3 q2 (by omega)
  have q3 := zOc_X f3 q3 (by omega)
  refine ⟨hy, hn.2, fun b29 hb29 Z31 S32 e31 e32 Z38 e38 => ?_⟩
  obtain ⟨-, y⟩ := sc_arr (f := 2) (nh := 4) (kh := 6) f1 o rfl hb29 e31 e32
  obtain ⟨g1, g2, g3, q5, o⟩ := y Z38 e38
  have q1 := zOc_X g3 q1 (by omega)
  have q2 := zOc_X g3 q2 (by omega)
  have q3 := zOc_X g3 q3 (by omega)
  have h16 : zPm Z16 = 4 := by omega
  have h26 : zPm Z26 = 5 := by omega
  rw [h16] at q4
  rw [h26] at q5
  have q4 := zOc_X g3 q4 (by omega)
  have hC : pCL Z38 S32 n w a 0 := ⟨b7, b18, b29, _, _, o, q4, q5, ⟨⟨b7, c, d, q1, q2, q3⟩, q1.2⟩, fun j hj => absurd hj (by omega)⟩
  refine zlp4 (fun m x Z S => m ≤ n ∧ x = nI m ∧ zok Z ∧ zPm Z = 6 + 12 * m ∧ pCL Z S n w a m) (fun m _ _ _ => n - m) (fun rec m x Z S hI hrec => ?_) 0 _ Z38 S32 ⟨by omega, rfl, g1, by omega, hC⟩
  obtain ⟨hmn, rfl, ok, hZ, hC⟩ := hI
  have hle : (nI n ≤ nI m) ↔ n ≤ m := nI_leI (by omega) (by omega)
  unfold wb_X6_init_59
  refine ⟨by omega, fun z => ?_, fun z => ?_⟩
  · have : m = n := by have := hle.mp z; omega
    subst this
    exact k Z S ok hZ hC
  · have hm2 : m < n := Nat.lt_of_not_le (fun y => z (hle.mpr y))
    obtain ⟨b7, b18, b29, q1, q2, o0, o4, o5, oj⟩ := hC
    refine ⟨by omega, sc_k o0 rfl, b18, (sc_q o0 1).trans rfl, fun b45 hb45 Z47 S48 e47 e48 => ?_⟩
    obtain ⟨a1, a2, a3, a4⟩ := sc_al (zPm Z) ok hb45 e47 e48
    rw [hZ] at a2 a3 a4
    have o0 := zOc_X a3 o0 (by omega)
    have o4 := zOc_X a3 o4 (by omega)
    have o5 := zOc_X a3 o5 (by omega)
    refine ⟨b7, (sc_q o0 3).trans rfl, ?_⟩
    rw [all_nI hn.2]
    refine k_X2 (p := 6 + 12 * m) a1 a4 a2 (fun Z54 S53 c1 c2 c3 c4 c5 => ?_)
    have o0 := zOc_X c3 o0 (by omega)
    have o4 := zOc_X c3 o4 (by omega)
    have o5 := zOc_X c3 o5 (by omega)
    have hcm : (nI m).toNatClampNeg = m := nI_clamp (by omega)
    refine ⟨sc_k o4 rfl, c4, by rw [sc_N o4 (kh := 12) (nh := n) rfl]; exact vp_in_nI hm2 (by omega), fun Z59 e59 => ?_⟩
    rw [hcm] at e59
    obtain ⟨d1, d2, d3, o4⟩ := sc_Q c1 o4 e59
    have o0 := zOc_X d3 o0 (by omega)
    have o5 := zOc_X d3 o5 (by omega)
    have c5 := pND_X d3 c5 (by omega)
    refine ⟨sc_k o0 rfl, b29, (sc_q o0 2).trans rfl, fun b65 hb65 Z67 S68 e67 e68 => ?_⟩
    obtain ⟨f1, f2, f3, f4⟩ := sc_al (zPm Z59) d1 hb65 e67 e68
    have h59 : zPm Z59 = 6 + 12 * m + 9 := by omega
    rw [h59] at f2 f3 f4
    have o0 := zOc_X f3 o0 (by omega)
    have o4 := zOc_X f3 o4 (by omega)
    have o5 := zOc_X f3 o5 (by omega)
    have c5 := pND_X f3 c5 (by omega)
    refine k_X5 f1 f4 rfl (fun Z74 S73 c d g1 g2 g3 g4 g5 g6 => ?_)
    rw [f2] at g2 g4 g5
    have o0 := zOc_X g3 o0 (by omega)
    have o4 := zOc_X g3 o4 (by omega)
    have o5 := zOc_X g3 o5 (by omega)
    have c5 := pND_X g3 c5 (by omega)
    have hR : pRG Z74 S73 (6 + 12 * m + 9) := ⟨b65, c, d, g6, g4, g5⟩
    refine ⟨sc_k o5 rfl, sc_k g6 rfl, by rw [sc_N o5 (kh := 13) (nh := n) rfl]; exact vp_in_nI hm2 (by omega), fun Z79 e79 y82 e82 => ?_⟩
    rw [hcm] at e79
    obtain ⟨t1, t2, t3, o5⟩ := sc_Q g1 o5 e79
    have o0 := zOc_X t3 o0 (by omega)
    have o4 := zOc_X t3 o4 (by omega)
    have c5 := pND_X t3 c5 (by omega)
    have g6 := zOc_X t3 g6 (by omega)
    have hR := pRG_X t3 hR (by omega)
    -- what was there before
    have oj := pJ_X t3 (pJ_X g3 (pJ_X f3 (pJ_X d3 (pJ_X c3 (pJ_X a3 oj (Or.inr (Or.inr (Nat.le_refl _)))) (Or.inr (Or.inr (Nat.le_refl _)))) (Or.inl rfl)) (Or.inr (Or.inr (by omega)))) (Or.inr (Or.inr (by omega)))) (Or.inr (Or.inl rfl))
    have hp45 : zPa Z79 (6 + 12 * m) = b45 := by
      rw [(t3.2 _ (by omega)).1, (g3.2 _ (by omega)).1, (f3.2 _ (by omega)).1, (d3.2 _ (by omega)).1, (c3.2 _ (by omega)).1]
      exact a4.2
    have hp65 : zPa Z79 (6 + 12 * m + 9) = b65 := g6.2
    refine hrec _ _ _ _ ⟨by omega, by rw [e82, nI_1], t1, by omega, b7, b18, b29, _, _, o0, o4, o5, oj.1, fun j hj => ?_⟩ (by omega)
    show (if j = m then some b45 else q1 j) = _ ∧ (if j = m then some b65 else q2 j) = _ ∧ _
    by_cases e : j = m
    · subst e
      rw [if_pos rfl, if_pos rfl, hp45, hp65]
      exact ⟨rfl, rfl, c5, hR⟩
    · rw [if_neg e, if_neg e]
      exact oj.2 j (by omega)
end
