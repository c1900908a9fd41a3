/-! what the class's constructors make -/
def zOc (Z : zZ) (S : zS) (p a : Nat) (r : zrc) : Prop := zOb Z S p r ∧ zPa Z p = a
theorem zOc_X {h p a : Nat} {Z Z' : zZ} {S S' : zS} {r : zrc} (x : zX h Z Z' S S') (o : zOc Z S p a r) (hp : p ≠ h) : zOc Z' S' p a r := ⟨zOb_X x o.1 hp, (x.2 p o.1.1).1.trans o.2⟩
theorem zOc_lt {Z : zZ} {S : zS} {p a : Nat} {r : zrc} (o : zOc Z S p a r) : p < zPm Z := o.1.1
section
variable {Z Z' Z3 Z7 : zZ} {S S' S4 : zS} {p a b f kh nh k n : Nat} {r : zrc} {Qp : zZ → zS → Prop}
theorem sc_al (h : Nat) (ok : zok Z) (hb : b ∉ zL Z) (e1 : Z' = zalZ Z b k n) (e2 : S' = zalS S b) : zok Z' ∧ zPm Z' = zPm Z + 1 ∧ zX h Z Z' S S' ∧ zOc Z' S' (zPm Z) b (zr0 k n) := by
  obtain ⟨a1, a2, a3, a4, a5⟩ := st_al h ok hb e1 e2
  exact ⟨a1, a2, a3, a5, a4⟩
theorem sc_Q {v : Option Nat} (ok : zok Z) (o : zOc Z S p a r) (e : Z' = zsQ Z a f v) : zok Z' ∧ zPm Z' = zPm Z ∧ zX p Z Z' S S ∧ zOc Z' S p a (zwQ r f v) := by
  obtain ⟨o1, o2⟩ := o
  rw [← o2] at e
  obtain ⟨b1, b2, b3, b4, b5⟩ := st_Q ok o1 e
  exact ⟨b1, b2, b3, b4, by rw [b5]; exact o2⟩
theorem sc_I {v : Int32} (ok : zok Z) (o : zOc Z S p a r) (e : S' = zsI S a f v) : zX p Z Z S S' ∧ zOc Z S' p a (zwI r f v) := by
  obtain ⟨o1, o2⟩ := o
  rw [← o2] at e
  obtain ⟨b1, b2⟩ := st_I ok o1 e
  exact ⟨b1, b2, o2⟩
theorem sc_R {v : Option Nat} (ok : zok Z) (o : zOc Z S p a r) (e : S' = zsR S a f v) : zX p Z Z S S' ∧ zOc Z S' p a (zwR r f v) := by
  obtain ⟨o1, o2⟩ := o
  rw [← o2] at e
  obtain ⟨b1, b2⟩ := st_R ok o1 e
  exact ⟨b1, b2, o2⟩
theorem sc_k (o : zOc Z S p a r) (er : r.1.1 = (kh, nh)) : zk Z a kh := by
  have := (zOb_k o.1 er).1
  rw [o.2] at this
  exact this
theorem sc_arr (ok : zok Z) (o : zOc Z S p a r) (er : r.1.1 = (kh, nh)) (hb : b ∉ zL Z) (e3 : Z3 = zalZ Z b k n) (e4 : S4 = zalS S b) : zk Z3 a kh ∧ ∀ Z7, Z7 = zsQ Z3 a f (some b) → zok Z7 ∧ zPm Z7 = zPm Z + 1 ∧ zX p Z Z7 S S4 ∧ zOc Z7 S4 (zPm Z) b (zr0 k n) ∧ zOc Z7 S4 p a (zwQ r f (some b)) := by
  obtain ⟨a1, a2, a3, a4⟩ := sc_al (zPm Z) ok hb e3 e4
  have o3 : zOc Z3 S4 p a r := zOc_X a3 o (by have := o.1.1; omega)
  refine ⟨sc_k o3 er, fun Z7 e7 => ?_⟩
  obtain ⟨b1, b2, b3, b4⟩ := sc_Q a1 o3 e7
  exact ⟨b1, b2.trans a2, zX_tr (zX_w a3 (Nat.le_refl _)) b3, zOc_X b3 a4 (by have := o.1.1; omega), b4⟩
theorem k_X3 (ok : zok Z) (o : zOc Z S p a r) (er : r.1.1 = (3, nh)) (k : ∀ Z' S' c, zok Z' → zPm Z' = zPm Z + 1 → zX p Z Z' S S' → zOc Z' S' (zPm Z) c (zr0 11 12) → zOc Z' S' p a (zwQ r 0 (some c)) → Qp Z' S') : w_X3_init Z a S Qp := by
  unfold w_X3_init
  intro b hb Z3 S4 e3 e4
  obtain ⟨x, y⟩ := sc_arr (f := 0) ok o er hb e3 e4
  refine ⟨x, fun Z7 e7 => ?_⟩
  obtain ⟨c1, c2, c3, c4, c5⟩ := y Z7 e7
  exact k Z7 S4 b c1 c2 c3 c4 c5
theorem k_X0 (ok : zok Z) (o : zOc Z S p a r) (er : r.1.1 = (0, nh)) (k : ∀ Z' S' c, zok Z' → zPm Z' = zPm Z + 1 → zX p Z Z' S S' → zOc Z' S' (zPm Z) c (zr0 9 600) → zOc Z' S' p a (zwQ r 0 (some c)) → Qp Z' S') : w_X0_init Z a S Qp := by
  unfold w_X0_init
  intro b hb Z3 S4 e3 e4
  obtain ⟨x, y⟩ := sc_arr (f := 0) ok o er hb e3 e4
  refine ⟨x, fun Z7 e7 => ?_⟩
  obtain ⟨c1, c2, c3, c4, c5⟩ := y Z7 e7
  exact k Z7 S4 b c1 c2 c3 c4 c5
theorem k_X4 (ok : zok Z) (o : zOc Z S p a r) (er : r.1.1 = (4, nh)) (k : ∀ Z' S' c d, zok Z' → zPm Z' = zPm Z + 2 → zX p Z Z' S S' → zOc Z' S' (zPm Z) c (zr0 9 16) → zOc Z' S' (zPm Z + 1) d (zr0 11 101) → zOc Z' S' p a (zwQ (zwQ r 0 (some c)) 1 (some d)) → Qp Z' S') : w_X4_init Z a S Qp := by
  unfold w_X4_init
  intro b hb Z3 S4 e3 e4
  obtain ⟨x, y⟩ := sc_arr (f := 0) ok o er hb e3 e4
  refine ⟨x, fun Z7 e7 b10 hb10 Z12 S13 e12 e13 Z17 e17 => ?_⟩
  obtain ⟨c1, c2, c3, c4, c5⟩ := y Z7 e7
  obtain ⟨-, y⟩ := sc_arr (f := 1) (nh := nh) c1 c5 er hb10 e12 e13
  obtain ⟨d1, d2, d3, d4, d5⟩ := y Z17 e17
  rw [c2] at d4
  exact k Z17 S13 b b10 d1 (by omega) (zX_tr c3 d3) (zOc_X d3 c4 (by have := o.1.1; omega)) d4 d5
theorem k_X5 (ok : zok Z) (o : zOc Z S p a r) (er : r.1.1 = (5, nh)) (k : ∀ Z' S' c d, zok Z' → zPm Z' = zPm Z + 2 → zX p Z Z' S S' → zOc Z' S' (zPm Z) c (zr0 10 101) → zOc Z' S' (zPm Z + 1) d (zr0 8 8) → zOc Z' S' p a (zwI (zwQ (zwQ r 0 (some c)) 1 (some d)) 4 (-1)) → Qp Z' S') : w_X5_init Z a S Qp := by
  unfold w_X5_init
  intro b hb Z3 S4 e3 e4
  obtain ⟨x, y⟩ := sc_arr (f := 0) ok o er hb e3 e4
  refine ⟨x, fun Z7 e7 b10 hb10 Z12 S13 e12 e13 Z17 e17 S21 e21 => ?_⟩
  obtain ⟨c1, c2, c3, c4, c5⟩ := y Z7 e7
  obtain ⟨-, y⟩ := sc_arr (f := 1) (nh := nh) c1 c5 er hb10 e12 e13
  obtain ⟨d1, d2, d3, d4, d5⟩ := y Z17 e17
  obtain ⟨f1, f2⟩ := sc_I d1 d5 e21
  rw [c2] at d4
  have := o.1.1
  exact k Z17 S21 b b10 d1 (by omega) (zX_tr (zX_tr c3 d3) f1) (zOc_X f1 (zOc_X d3 c4 (by omega)) (by omega)) (zOc_X f1 d4 (by omega)) f2
/-- a node's cells, from p on; a ring's -/
def pND (Z : zZ) (S : zS) (p i : Nat) (all : Int32) (rn : Nat) : Prop := ∃ d b4 c5 b6 c7 c8 b9 c10 c11, zOc Z S p d (zwR (zwI (zwI (zwI (zwQ (zwQ (zwQ (zwQ (zr0 2 13) 1 (some b4)) 2 (some b6)) 3 (some b9)) 4 (some c11)) 5 1) 0 (nI i)) 10 all) 7 (some rn)) ∧ zOc Z S (p + 1) b4 (zwQ (zr0 3 2) 0 (some c5)) ∧ zOc Z S (p + 2) c5 (zr0 11 12) ∧ zOc Z S (p + 3) b6 (zwQ (zwQ (zr0 4 5) 0 (some c7)) 1 (some c8)) ∧ zOc Z S (p + 4) c7 (zr0 9 16) ∧ zOc Z S (p + 5) c8 (zr0 11 101) ∧ zOc Z S (p + 6) b9 (zwQ (zr0 0 2) 0 (some c10)) ∧ zOc Z S (p + 7) c10 (zr0 9 600) ∧ zOc Z S (p + 8) c11 (zr0 11 101)
def pRG (Z : zZ) (S : zS) (p : Nat) : Prop := ∃ d c13 c14, zOc Z S p d (zwI (zwQ (zwQ (zr0 5 6) 0 (some c13)) 1 (some c14)) 4 (-1)) ∧ zOc Z S (p + 1) c13 (zr0 10 101) ∧ zOc Z S (p + 2) c14 (zr0 8 8)
theorem pND_X {h i rn : Nat} {all : Int32} (x : zX h Z Z' S S') (o : pND Z S p i all rn) (hp : h < p ∨ p + 8 < h) : pND Z' S' p i all rn := by
  obtain ⟨d, b4, c5, b6, c7, c8, b9, c10, c11, o0, o1, o2, o3, o4, o5, o6, o7, o8⟩ := o
  exact ⟨d, b4, c5, b6, c7, c8, b9, c10, c11, zOc_X x o0 (by omega), zOc_X x o1 (by omega), zOc_X x o2 (by omega), zOc_X x o3 (by omega), zOc_X x o4 (by omega), zOc_X x o5 (by omega), zOc_X x o6 (by omega), zOc_X x o7 (by omega), zOc_X x o8 (by omega)⟩
theorem pRG_X {h : Nat} (x : zX h Z Z' S S') (o : pRG Z S p) (hp : h < p ∨ p + 2 < h) : pRG Z' S' p := by
  obtain ⟨d, c13, c14, o0, o1, o2⟩ := o
  exact ⟨d, c13, c14, zOc_X x o0 (by omega), zOc_X x o1 (by omega), zOc_X x o2 (by omega)⟩
theorem k_X2 {i rn : Nat} {all : Int32} (ok : zok Z) (o : zOc Z S p a (zr0 2 13)) (hp : zPm Z = p + 1) (k : ∀ Z' S', zok Z' → zPm Z' = p + 9 → zX p Z Z' S S' → zk Z' a 2 → pND Z' S' p i all rn → Qp Z' S') : w_X2_init Z a (nI i) all rn S Qp := by
  unfold w_X2_init
  intro b1 hb1 Z3 S4 e3 e4
  obtain ⟨a1, a2, a3, a4⟩ := sc_al p ok hb1 e3 e4
  have o := zOc_X (zX_w (h' := zPm Z) (sc_al (zPm Z) ok hb1 e3 e4).2.2.1 (Nat.le_refl _)) o (by omega)
  rw [hp] at a4 a2
  refine k_X3 a1 a4 rfl (fun Z7 S6 c5 c1 c2 c3 c4 c5' => ?_)
  rw [a2] at c2 c4
  have o := zOc_X c3 o (by omega)
  refine ⟨sc_k o rfl, fun Z9 e9 b11 hb11 Z13 S14 e13 e14 => ?_⟩
  obtain ⟨d1, d2, d3, o⟩ := sc_Q c1 o e9
  have x1 := zX_tr (zX_tn a3 c3 (by omega)) d3
  have q1 := zOc_X d3 c5' (by omega)
  have q2 := zOc_X d3 c4 (by omega)
  obtain ⟨f1, f2, f3, f4⟩ := sc_al (zPm Z9) d1 hb11 e13 e14
  rw [d2, c2] at f2 f4
  have hx9 : zPm Z9 = p + 1 + 1 + 1 := by omega
  have o := zOc_X f3 o (by omega)
  have q1 := zOc_X f3 q1 (by omega)
  have q2 := zOc_X f3 q2 (by omega)
  have x1 := zX_tr x1 (zX_w f3 (Nat.le_refl _))
  refine k_X4 f1 f4 rfl (fun Z18 S17 c7 c8 g1 g2 g3 g4 g5 g6 => ?_)
  have x1 := zX_tn x1 g3 (by omega)
  have o := zOc_X g3 o (by omega)
  have q1 := zOc_X g3 q1 (by omega)
  have q2 := zOc_X g3 q2 (by omega)
  rw [f2] at g2 g4 g5
  refine ⟨sc_k o rfl, fun Z20 e20 b22 hb22 Z24 S25 e24 e25 => ?_⟩
  obtain ⟨d1, d2, d3, o⟩ := sc_Q g1 o e20
  have x1 := zX_tr x1 d3
  have q1 := zOc_X d3 q1 (by omega)
  have q2 := zOc_X d3 q2 (by omega)
  have q3 := zOc_X d3 g6 (by omega)
  have q4 := zOc_X d3 g4 (by omega)
  have q5 := zOc_X d3 g5 (by omega)
  have hx : zPm Z20 = p + 6 := by omega
  obtain ⟨f1, f2, f3, f4⟩ := sc_al (zPm Z20) d1 hb22 e24 e25
  rw [hx] at f2 f4
  have o := zOc_X f3 o (by omega)
  have q1 := zOc_X f3 q1 (by omega)
  have q2 := zOc_X f3 q2 (by omega)
  have q3 := zOc_X f3 q3 (by omega)
  have q4 := zOc_X f3 q4 (by omega)
  have q5 := zOc_X f3 q5 (by omega)
  have x1 := zX_tr x1 (zX_w f3 (Nat.le_refl _))
  refine k_X0 f1 f4 rfl (fun Z29 S28 c10 g1 g2 g3 g4 g5 => ?_)
  have x1 := zX_tn x1 g3 (by omega)
  have o := zOc_X g3 o (by omega)
  have q1 := zOc_X g3 q1 (by omega)
  have q2 := zOc_X g3 q2 (by omega)
  have q3 := zOc_X g3 q3 (by omega)
  have q4 := zOc_X g3 q4 (by omega)
  have q5 := zOc_X g3 q5 (by omega)
  rw [f2] at g2 g4
  refine ⟨sc_k o rfl, fun Z31 e31 b33 hb33 Z35 S36 e35 e36 Z39 e39 S42 e42 S43 e43 S44 e44 S45 e45 => ?_⟩
  obtain ⟨d1, d2, d3, o⟩ := sc_Q g1 o e31
  have x1 := zX_tr x1 d3
  have q1 := zOc_X d3 q1 (by omega)
  have q2 := zOc_X d3 q2 (by omega)
  have q3 := zOc_X d3 q3 (by omega)
  have q4 := zOc_X d3 q4 (by omega)
  have q5 := zOc_X d3 q5 (by omega)
  have q6 := zOc_X d3 g5 (by omega)
  have q7 := zOc_X d3 g4 (by omega)
  have hx : zPm Z31 = p + 8 := by omega
  obtain ⟨-, y⟩ := sc_arr (f := 4) (nh := 13) (kh := 2) d1 o rfl hb33 e35 e36
  obtain ⟨f1, f2, f3, q8, o⟩ := y Z39 e39
  obtain ⟨t1, o⟩ := sc_I f1 o e42
  obtain ⟨t2, o⟩ := sc_I f1 o e43
  obtain ⟨t3, o⟩ := sc_I f1 o e44
  obtain ⟨t4, o⟩ := sc_R f1 o e45
  have t := zX_tr t1 (zX_tr t2 (zX_tr t3 t4))
  have x2 := zX_tr f3 t
  rw [hx] at f2 q8
  exact k Z39 S45 f1 f2 (zX_tr x1 x2) (sc_k o rfl) ⟨a, b1, c5, b11, c7, c8, b22, c10, b33, o, zOc_X x2 q1 (by omega), zOc_X x2 q2 (by omega), zOc_X x2 q3 (by omega), zOc_X x2 q4 (by omega), zOc_X x2 q5 (by omega), zOc_X x2 q6 (by omega), zOc_X x2 q7 (by omega), zOc_X t q8 (by omega)⟩
end
