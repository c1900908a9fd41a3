/-! THE MEANING OF THE CELLS. A record: naturals and longs by field and place. A state: a record for each node and one for each ring. The class's cells show a state (zCV), the reference's cells show it (zMV). -/
abbrev nT : Type := (Nat → Nat → Nat) × (Nat → Nat → Int64)
def nsI (N : nT) (f j v : Nat) : nT := (zu N.1 f j v, N.2)
def nsJ (N : nT) (f j : Nat) (v : Int64) : nT := (N.1, zu N.2 f j v)
theorem n1_sI (N : nT) (f j v f' j' : Nat) : (nsI N f j v).1 f' j' = if f' = f ∧ j' = j then v else N.1 f' j' := rfl
theorem n2_sI (N : nT) (f j v : Nat) : (nsI N f j v).2 = N.2 := rfl
theorem n1_sJ (N : nT) (f j : Nat) (v : Int64) : (nsJ N f j v).1 = N.1 := rfl
theorem n2_sJ (N : nT) (f j : Nat) (v : Int64) (f' j' : Nat) : (nsJ N f j v).2 f' j' = if f' = f ∧ j' = j then v else N.2 f' j' := rfl
abbrev gT : Type := (Nat → nT) × (Nat → nT)
def gN (G : gT) (i : Nat) (N : nT) : gT := (fun j => if j = i then N else G.1 j, G.2)
def gR (G : gT) (r : Nat) (R : nT) : gT := (G.1, fun j => if j = r then R else G.2 j)
theorem g1_N (G : gT) (i : Nat) (N : nT) (j : Nat) : (gN G i N).1 j = if j = i then N else G.1 j := rfl
theorem g1_Ns (G : gT) (i : Nat) (N : nT) : (gN G i N).1 i = N := if_pos rfl
theorem g1_Nn (G : gT) {i j : Nat} (N : nT) (h : j ≠ i) : (gN G i N).1 j = G.1 j := if_neg h
theorem g2_N (G : gT) (i : Nat) (N : nT) : (gN G i N).2 = G.2 := rfl
theorem g1_R (G : gT) (r : Nat) (R : nT) : (gR G r R).1 = G.1 := rfl
theorem g2_R (G : gT) (r : Nat) (R : nT) (j : Nat) : (gR G r R).2 j = if j = r then R else G.2 j := rfl
theorem g2_Rs (G : gT) (r : Nat) (R : nT) : (gR G r R).2 r = R := if_pos rfl
theorem g2_Rn (G : gT) {r j : Nat} (R : nT) (h : j ≠ r) : (gR G r R).2 j = G.2 j := if_neg h
theorem gN_gN (G : gT) (i : Nat) (N M : nT) : gN (gN G i N) i M = gN G i M := by
  refine Prod.ext (funext fun j => ?_) rfl
  show (if j = i then M else if j = i then N else G.1 j) = if j = i then M else G.1 j
  by_cases h : j = i <;> simp only [h, if_true, if_false]
theorem gN_self (G : gT) (i : Nat) : gN G i (G.1 i) = G := by
  refine Prod.ext (funext fun j => ?_) rfl
  show (if j = i then G.1 i else G.1 j) = G.1 j
  by_cases h : j = i
  · rw [if_pos h, h]
  · rw [if_neg h]
theorem gR_gR (G : gT) (i : Nat) (N M : nT) : gR (gR G i N) i M = gR G i M := by
  refine Prod.ext rfl (funext fun j => ?_)
  show (if j = i then M else if j = i then N else G.2 j) = if j = i then M else G.2 j
  by_cases h : j = i <;> simp only [h, if_true, if_false]
theorem gR_self (G : gT) (i : Nat) : gR G i (G.2 i) = G := by
  refine Prod.ext rfl (funext fun j => ?_)
  show (if j = i then G.2 i else G.2 j) = G.2 j
  by_cases h : j = i
  · rw [if_pos h, h]
  · rw [if_neg h]
theorem gN_gR (G : gT) (i r : Nat) (N R : nT) : gN (gR G r R) i N = gR (gN G i N) r R := rfl
/-! node fields: 0 up, 1 group, 2 ring (8: none), 3 highest, 4 vote's number, 5 vote's members, 6 delivered, 7 safe to, 8 applied, 9 done, 10 logged ever, 11 pending; 12, 13 a pending one's key, safe; 14, 15 kept, its key; 16 has. longs: 0 mark, 1 table, 2 log, 12 a pending one's value, 14 a kept one's value. ring fields: 0 number, 1 members, 2 holder + 1 (0: lost), 3 last place, 4 requested, 5 full; 6, 7, 8 a place's sender, key, safe; longs: 6 its value. -/
def cT (f : Nat) : Nat := if f < 8 then 3 else if f < 10 then 6 else if f = 10 then 9 else 4
def cS (f : Nat) : Nat := if f < 8 then f + 5 else if f = 8 then 2 else if f = 9 then 4 else 1
theorem cTS_inj : ∀ f, f < 12 → ∀ g, g < 12 → cT f = cT g → cS f = cS g → f = g := by decide
theorem cT_rg : ∀ f, f < 12 → cT f = 3 ∨ cT f = 4 ∨ cT f = 6 ∨ cT f = 9 := by decide
theorem cS_0 : ∀ f, f < 12 → cS f ≠ 0 := by decide
/-- the cells of node i -/
def zNd (Z : zZ) (ad : Nat → Nat → Nat) (i : Nat) : Prop :=
  (zk Z (ad 3 i) 2 ∧ zQ Z (ad 3 i) 1 = some (ad 4 i) ∧ zQ Z (ad 3 i) 2 = some (ad 6 i) ∧ zQ Z (ad 3 i) 3 = some (ad 9 i) ∧ zQ Z (ad 3 i) 4 = some (ad 11 i)) ∧
  (zk Z (ad 4 i) 3 ∧ zQ Z (ad 4 i) 0 = some (ad 5 i) ∧ zk Z (ad 5 i) 11 ∧ zN Z (ad 5 i) = 12) ∧
  (zk Z (ad 6 i) 4 ∧ zQ Z (ad 6 i) 0 = some (ad 7 i) ∧ zQ Z (ad 6 i) 1 = some (ad 8 i) ∧ zk Z (ad 7 i) 9 ∧ zN Z (ad 7 i) = 16 ∧ zk Z (ad 8 i) 11 ∧ zN Z (ad 8 i) = 101) ∧
  (zk Z (ad 9 i) 0 ∧ zQ Z (ad 9 i) 0 = some (ad 10 i) ∧ zk Z (ad 10 i) 9 ∧ zN Z (ad 10 i) = 600) ∧
  (zk Z (ad 11 i) 11 ∧ zN Z (ad 11 i) = 101)
/-- the cells of ring r -/
def zRg (Z : zZ) (ad : Nat → Nat → Nat) (r : Nat) : Prop :=
  zk Z (ad 12 r) 5 ∧ zQ Z (ad 12 r) 0 = some (ad 13 r) ∧ zQ Z (ad 12 r) 1 = some (ad 14 r) ∧ zk Z (ad 13 r) 10 ∧ zN Z (ad 13 r) = 101 ∧ zk Z (ad 14 r) 8 ∧ zN Z (ad 14 r) = 8
/-- a ring's index: below n, or 8, which is none -/
def zri (n r : Nat) : Prop := r < n ∨ r = 8
/-- the class's cells -/
def zCs (Z : zZ) (ad : Nat → Nat → Nat) (n : Nat) : Prop :=
  (zk Z (ad 0 0) 6 ∧ zQ Z (ad 0 0) 1 = some (ad 1 0) ∧ zQ Z (ad 0 0) 2 = some (ad 2 0) ∧ zQ Z (ad 0 0) 3 = some (ad 12 8)) ∧
  (zk Z (ad 1 0) 12 ∧ zN Z (ad 1 0) = n ∧ zk Z (ad 2 0) 13 ∧ zN Z (ad 2 0) = n) ∧
  (∀ i, i < n → zQ Z (ad 1 0) i = some (ad 3 i) ∧ zQ Z (ad 2 0) i = some (ad 12 i) ∧ zNd Z ad i) ∧
  (∀ r, zri n r → zRg Z ad r) ∧
  (∀ t i t' i', ad t i = ad t' i' ↔ t = t' ∧ i = i') ∧ (∀ t i, ¬ zk Z (ad t i) 1) ∧ 2 ≤ n ∧ n ≤ 8
/-- a message of the class -/
def zMg (Z : zZ) (S : zS) (b sender key : Nat) (value : Int64) (safe : Nat) : Prop := zk Z b 1 ∧ zI S b 0 = nI sender ∧ zI S b 1 = nI key ∧ zJ S b 2 = value ∧ zI S b 3 = nI safe
def cnI (S : zS) (ad : Nat → Nat → Nat) (i : Nat) (N : nT) : Prop := zI S (ad 3 i) 0 = nI i ∧ ∀ f, f < 12 → f ≠ 2 → zI S (ad (cT f) i) (cS f) = nI (N.1 f 0)
def cnR (S : zS) (ad : Nat → Nat → Nat) (i : Nat) (N : nT) : Prop := zR S (ad 3 i) 7 = some (ad 12 (N.1 2 0))
def cnJ (S : zS) (ad : Nat → Nat → Nat) (i : Nat) (N : nT) : Prop := zJ S (ad 6 i) 3 = N.2 0 0 ∧ (∀ k, k < 16 → zJ S (ad 7 i) k = N.2 1 k) ∧ ∀ q, q < 600 → zJ S (ad 10 i) q = N.2 2 q
def cnP (Z : zZ) (S : zS) (ad : Nat → Nat → Nat) (i : Nat) (N : nT) : Prop := ∀ k, k < N.1 11 0 → ∃ b, zR S (ad 5 i) k = some b ∧ zMg Z S b i (N.1 12 k) (N.2 12 k) (N.1 13 k)
def zMk1 (Z : zZ) (S : zS) (b key : Nat) (value : Int64) : Prop := zk Z b 1 ∧ zI S b 1 = nI key ∧ zJ S b 2 = value
def cnK (Z : zZ) (S : zS) (ad : Nat → Nat → Nat) (i : Nat) (N : nT) : Prop := ∀ p, p < 101 → (N.1 14 p = 0 → zR S (ad 8 i) p = none) ∧ (N.1 14 p ≠ 0 → ∃ b, zR S (ad 8 i) p = some b ∧ zMk1 Z S b (N.1 15 p) (N.2 14 p))
def cnH (Z : zZ) (S : zS) (ad : Nat → Nat → Nat) (i : Nat) (N R : nT) : Prop := ∀ p, p < 101 → (N.1 16 p = 0 → zR S (ad 11 i) p = none) ∧ (N.1 16 p ≠ 0 → ∃ b, zR S (ad 11 i) p = some b ∧ zMg Z S b (R.1 6 p) (R.1 7 p) (R.2 6 p) (R.1 8 p))
def zCn (Z : zZ) (S : zS) (ad : Nat → Nat → Nat) (i : Nat) (N R : nT) : Prop := cnI S ad i N ∧ cnR S ad i N ∧ cnJ S ad i N ∧ cnP Z S ad i N ∧ cnK Z S ad i N ∧ cnH Z S ad i N R
def zCr (S : zS) (ad : Nat → Nat → Nat) (r : Nat) (R : nT) : Prop :=
  (zI S (ad 12 r) 2 = nI (R.1 0 0) ∧ zI S (ad 12 r) 3 = nI (R.1 1 0) ∧ zI S (ad 12 r) 4 = nI (R.1 2 0) - 1 ∧ zI S (ad 12 r) 5 = nI (R.1 3 0)) ∧ (∀ p, p < 101 → zI S (ad 13 r) p = nI (R.1 4 p)) ∧ ∀ j, j < 8 → zI S (ad 14 r) j = nI (R.1 5 j)
/-- two heaps say the same of the cell at a -/
def zAt (S S' : zS) (a : Nat) : Prop := zI S' a = zI S a ∧ zJ S' a = zJ S a ∧ zR S' a = zR S a
theorem zAt_rf (S : zS) (a : Nat) : zAt S S a := ⟨rfl, rfl, rfl⟩
theorem zAt_tr {S S' S'' : zS} {a : Nat} (h : zAt S S' a) (h' : zAt S' S'' a) : zAt S S'' a := ⟨h'.1.trans h.1, h'.2.1.trans h.2.1, h'.2.2.trans h.2.2⟩
theorem zAt_sI (S : zS) {a b : Nat} (j : Nat) (v : Int32) (h : b ≠ a) : zAt S (zsI S a j v) b := ⟨zu_ne _ _ _ _ _ h, rfl, rfl⟩
theorem zAt_sJ (S : zS) {a b : Nat} (j : Nat) (v : Int64) (h : b ≠ a) : zAt S (zsJ S a j v) b := ⟨rfl, zu_ne _ _ _ _ _ h, rfl⟩
theorem zAt_sR (S : zS) {a b : Nat} (j : Nat) (v : Option Nat) (h : b ≠ a) : zAt S (zsR S a j v) b := ⟨rfl, rfl, zu_ne _ _ _ _ _ h⟩
theorem zAt_al (S : zS) {a b : Nat} (h : b ≠ a) : zAt S (zalS S a) b := ⟨va_up_ne _ _ h, va_up_ne _ _ h, va_up_ne _ _ h⟩
theorem zMg_at {Z : zZ} {S S' : zS} {b x y z : Nat} {v : Int64} (h : zAt S S' b) (hm : zMg Z S b x y v z) : zMg Z S' b x y v z := by
  obtain ⟨h1, h2, h3, h4, h5⟩ := hm
  exact ⟨h1, by rw [h.1, h2], by rw [h.1, h3], by rw [h.2.1, h4], by rw [h.1, h5]⟩
theorem zMk1_at {Z : zZ} {S S' : zS} {b y : Nat} {v : Int64} (h : zAt S S' b) (hm : zMk1 Z S b y v) : zMk1 Z S' b y v := by
  obtain ⟨h1, h3, h4⟩ := hm
  exact ⟨h1, by rw [h.1, h3], by rw [h.2.1, h4]⟩
theorem cnI_at {S S' : zS} {ad : Nat → Nat → Nat} {i : Nat} {N : nT} (h : ∀ t, zAt S S' (ad t i)) (H : cnI S ad i N) : cnI S' ad i N :=
  ⟨by rw [(h 3).1]; exact H.1, fun f hf h2 => by rw [(h _).1]; exact H.2 f hf h2⟩
theorem cnR_at {S S' : zS} {ad : Nat → Nat → Nat} {i : Nat} {N : nT} (h : zAt S S' (ad 3 i)) (H : cnR S ad i N) : cnR S' ad i N := by
  unfold cnR
  rw [h.2.2]
  exact H
theorem cnJ_at {S S' : zS} {ad : Nat → Nat → Nat} {i : Nat} {N : nT} (h : ∀ t, zAt S S' (ad t i)) (H : cnJ S ad i N) : cnJ S' ad i N := by
  unfold cnJ
  rw [(h 6).2.1, (h 7).2.1, (h 10).2.1]
  exact H
theorem cnP_at {Z : zZ} {S S' : zS} {ad : Nat → Nat → Nat} {i : Nat} {N : nT} (h : zR S' (ad 5 i) = zR S (ad 5 i)) (hb : ∀ b, zk Z b 1 → zAt S S' b) (H : cnP Z S ad i N) : cnP Z S' ad i N := fun k hk => by
  obtain ⟨b, h1, h2⟩ := H k hk
  exact ⟨b, by rw [h]; exact h1, zMg_at (hb b h2.1) h2⟩
theorem cnK_at {Z : zZ} {S S' : zS} {ad : Nat → Nat → Nat} {i : Nat} {N : nT} (h : zR S' (ad 8 i) = zR S (ad 8 i)) (hb : ∀ b, zk Z b 1 → zAt S S' b) (H : cnK Z S ad i N) : cnK Z S' ad i N := fun p hp => by
  rw [h]
  refine ⟨(H p hp).1, fun hn => ?_⟩
  obtain ⟨b, h1, h2⟩ := (H p hp).2 hn
  exact ⟨b, h1, zMk1_at (hb b h2.1) h2⟩
theorem cnH_at {Z : zZ} {S S' : zS} {ad : Nat → Nat → Nat} {i : Nat} {N R : nT} (h : zR S' (ad 11 i) = zR S (ad 11 i)) (hb : ∀ b, zk Z b 1 → zAt S S' b) (H : cnH Z S ad i N R) : cnH Z S' ad i N R := fun p hp => by
  rw [h]
  refine ⟨(H p hp).1, fun hn => ?_⟩
  obtain ⟨b, h1, h2⟩ := (H p hp).2 hn
  exact ⟨b, h1, zMg_at (hb b h2.1) h2⟩
theorem zCn_at {Z : zZ} {S S' : zS} {ad : Nat → Nat → Nat} {i : Nat} {N R : nT} (h : ∀ t, zAt S S' (ad t i)) (hb : ∀ b, zk Z b 1 → zAt S S' b) (H : zCn Z S ad i N R) : zCn Z S' ad i N R :=
  ⟨cnI_at h H.1, cnR_at (h 3) H.2.1, cnJ_at h H.2.2.1, cnP_at (h 5).2.2 hb H.2.2.2.1, cnK_at (h 8).2.2 hb H.2.2.2.2.1, cnH_at (h 11).2.2 hb H.2.2.2.2.2⟩
theorem zCr_at {S S' : zS} {ad : Nat → Nat → Nat} {r : Nat} {R : nT} (h : ∀ t, zAt S S' (ad t r)) (H : zCr S ad r R) : zCr S' ad r R := by
  unfold zCr
  rw [(h 12).1, (h 13).1, (h 14).1]
  exact H
/-- the class's cells show G (of n nodes, with window w); all else is as in S0 -/
def zCV (Z : zZ) (S0 : zS) (ad : Nat → Nat → Nat) (n w : Nat) (S : zS) (G : gT) : Prop := zCs Z ad n ∧ zI S (ad 0 0) 0 = nI w ∧ (∀ i, i < n → zCn Z S ad i (G.1 i) (G.2 ((G.1 i).1 2 0)) ∧ zri n ((G.1 i).1 2 0)) ∧ (∀ r, zri n r → zCr S ad r (G.2 r)) ∧ ∀ a, (∀ t i, a ≠ ad t i) → zAt S0 S a
