/-! The heap as functions. Z: the addresses, the kind of each, lengths of arrays, references that are final (and the rows of nodes and rings). S: ints, longs, other references; by address and place. -/
abbrev zZ : Type := List Nat × (Nat → Nat) × (Nat → Nat) × (Nat → Nat → Option Nat)
abbrev zS : Type := (Nat → Nat → Int32) × (Nat → Nat → Int64) × (Nat → Nat → Option Nat)
def zL (Z : zZ) : List Nat := Z.1
def zK (Z : zZ) : Nat → Nat := Z.2.1
def zN (Z : zZ) : Nat → Nat := Z.2.2.1
def zQ (Z : zZ) : Nat → Nat → Option Nat := Z.2.2.2
def zI (S : zS) : Nat → Nat → Int32 := S.1
def zJ (S : zS) : Nat → Nat → Int64 := S.2.1
def zR (S : zS) : Nat → Nat → Option Nat := S.2.2
def zu {α : Type} (f : Nat → Nat → α) (a j : Nat) (v : α) : Nat → Nat → α := fun x y => if x = a ∧ y = j then v else f x y
def zsI (S : zS) (a j : Nat) (v : Int32) : zS := (zu (zI S) a j v, zJ S, zR S)
def zsJ (S : zS) (a j : Nat) (v : Int64) : zS := (zI S, zu (zJ S) a j v, zR S)
def zsR (S : zS) (a j : Nat) (v : Option Nat) : zS := (zI S, zJ S, zu (zR S) a j v)
def zsQ (Z : zZ) (a j : Nat) (v : Option Nat) : zZ := (zL Z, zK Z, zN Z, zu (zQ Z) a j v)
/-- a new cell at a, of kind k, of n places -/
def zalZ (Z : zZ) (a k n : Nat) : zZ := (zL Z ++ [a], va_up (zK Z) a k, va_up (zN Z) a n, va_up (zQ Z) a (fun _ => none))
def zalS (S : zS) (a : Nat) : zS := (va_up (zI S) a (fun _ => 0), va_up (zJ S) a (fun _ => 0), va_up (zR S) a (fun _ => none))
/-- a cell of kind k stands at a -/
def zk (Z : zZ) (a k : Nat) : Prop := a ∈ zL Z ∧ zK Z a = k
theorem zu_ne {α : Type} (f : Nat → Nat → α) (a j : Nat) (v : α) (b : Nat) (h : b ≠ a) : zu f a j v b = f b := by
  funext i
  show (if b = a ∧ i = j then v else f b i) = _
  rw [if_neg (fun q => h q.1)]
theorem zu_eq {α : Type} (f : Nat → Nat → α) (a j : Nat) (v : α) : zu f a j v a = (fun i => if i = j then v else f a i) := by
  funext i
  show (if a = a ∧ i = j then v else f a i) = _
  by_cases h : i = j
  · rw [if_pos ⟨rfl, h⟩, if_pos h]
  · rw [if_neg (fun q => h q.2), if_neg h]
theorem zJ_sI (S : zS) (a j : Nat) (v : Int32) : zJ (zsI S a j v) = zJ S := rfl
theorem zR_sI (S : zS) (a j : Nat) (v : Int32) : zR (zsI S a j v) = zR S := rfl
theorem zI_sI (S : zS) (a j : Nat) (v : Int32) (b i : Nat) : zI (zsI S a j v) b i = if b = a ∧ i = j then v else zI S b i := rfl
theorem zI_sJ (S : zS) (a j : Nat) (v : Int64) : zI (zsJ S a j v) = zI S := rfl
theorem zR_sJ (S : zS) (a j : Nat) (v : Int64) : zR (zsJ S a j v) = zR S := rfl
theorem zJ_sJ (S : zS) (a j : Nat) (v : Int64) (b i : Nat) : zJ (zsJ S a j v) b i = if b = a ∧ i = j then v else zJ S b i := rfl
theorem zI_sR (S : zS) (a j : Nat) (v : Option Nat) : zI (zsR S a j v) = zI S := rfl
theorem zJ_sR (S : zS) (a j : Nat) (v : Option Nat) : zJ (zsR S a j v) = zJ S := rfl
theorem zR_sR (S : zS) (a j : Nat) (v : Option Nat) (b i : Nat) : zR (zsR S a j v) b i = if b = a ∧ i = j then v else zR S b i := rfl
theorem zQ_sQ (Z : zZ) (a j : Nat) (v : Option Nat) (b i : Nat) : zQ (zsQ Z a j v) b i = if b = a ∧ i = j then v else zQ Z b i := rfl
/-- what an object of kind k holds -/
def zfs (Z : zZ) (S : zS) (a : Nat) : Nat → List Value
  | 0 => [va_rf (zQ Z a 0), .int (zI S a 1)]
  | 1 => [.int (zI S a 0), .int (zI S a 1), .long (zJ S a 2), .int (zI S a 3)]
  | 2 => [.int (zI S a 0), va_rf (zQ Z a 1), va_rf (zQ Z a 2), va_rf (zQ Z a 3), va_rf (zQ Z a 4), .int (zI S a 5), .int (zI S a 6), va_rf (zR S a 7), .int (zI S a 8), .int (zI S a 9), .int (zI S a 10), .int (zI S a 11), .int (zI S a 12)]
  | 3 => [va_rf (zQ Z a 0), .int (zI S a 1)]
  | 4 => [va_rf (zQ Z a 0), va_rf (zQ Z a 1), .int (zI S a 2), .long (zJ S a 3), .int (zI S a 4)]
  | 5 => [va_rf (zQ Z a 0), va_rf (zQ Z a 1), .int (zI S a 2), .int (zI S a 3), .int (zI S a 4), .int (zI S a 5)]
  | 6 => [.int (zI S a 0), va_rf (zQ Z a 1), va_rf (zQ Z a 2), va_rf (zQ Z a 3)]
  | 7 => [.int (zI S a 0), .int (zI S a 1), .int (zI S a 2), va_rf (zQ Z a 3), va_rf (zQ Z a 4), va_rf (zQ Z a 5), va_rf (zQ Z a 6), va_rf (zQ Z a 7), va_rf (zQ Z a 8), va_rf (zQ Z a 9), va_rf (zQ Z a 10), va_rf (zQ Z a 11), va_rf (zQ Z a 12), va_rf (zQ Z a 13), va_rf (zQ Z a 14), va_rf (zQ Z a 15), va_rf (zQ Z a 16), va_rf (zQ Z a 17), va_rf (zQ Z a 18), va_rf (zQ Z a 19), va_rf (zQ Z a 20), va_rf (zQ Z a 21), va_rf (zQ Z a 22), va_rf (zQ Z a 23), va_rf (zQ Z a 24), va_rf (zQ Z a 25), va_rf (zQ Z a 26), va_rf (zQ Z a 27), va_rf (zQ Z a 28), va_rf (zQ Z a 29), va_rf (zQ Z a 30), va_rf (zQ Z a 31), va_rf (zQ Z a 32), va_rf (zQ Z a 33), va_rf (zQ Z a 34), va_rf (zQ Z a 35)]
  | _ => []
/-- what lies at a -/
def zF (cy : Nat → ClassId) (Z : zZ) (S : zS) (a : Nat) : va_E := match zK Z a with
  | 8 => .inl (cy 0, zN Z a, .inl (zI S a))
  | 9 => .inl (cy 1, zN Z a, .inr (.inl (zJ S a)))
  | 10 => .inl (cy 2, zN Z a, .inl (zI S a))
  | 11 => .inl (cy 3, zN Z a, .inr (.inr (.inr (.inr (zR S a)))))
  | 12 => .inl (cy 4, zN Z a, .inr (.inr (.inr (.inr (zQ Z a)))))
  | 13 => .inl (cy 5, zN Z a, .inr (.inr (.inr (.inr (zQ Z a)))))
  | k => .inr (k, zfs Z S a k)
abbrev zTy (cy : Nat → ClassId) : List (ClassId × FieldType) := [(cy 0, .int), (cy 1, .long), (cy 2, .boolean), (cy 3, .object RX1), (cy 4, .object RX2), (cy 5, .object RX5)]
def zW (cy : Nat → ClassId) (Z : zZ) (S : zS) : va_W := va_pl (zL Z) (zF cy Z S)
theorem zF_0 (cy : Nat → ClassId) {Z : zZ} {S : zS} {a : Nat} (h : zk Z a 0) : zF cy Z S a = .inr (0, zfs Z S a 0) := by
  unfold zF
  rw [h.2]
  rfl
theorem zF_1 (cy : Nat → ClassId) {Z : zZ} {S : zS} {a : Nat} (h : zk Z a 1) : zF cy Z S a = .inr (1, zfs Z S a 1) := by
  unfold zF
  rw [h.2]
  rfl
theorem zF_2 (cy : Nat → ClassId) {Z : zZ} {S : zS} {a : Nat} (h : zk Z a 2) : zF cy Z S a = .inr (2, zfs Z S a 2) := by
  unfold zF
  rw [h.2]
  rfl
theorem zF_3 (cy : Nat → ClassId) {Z : zZ} {S : zS} {a : Nat} (h : zk Z a 3) : zF cy Z S a = .inr (3, zfs Z S a 3) := by
  unfold zF
  rw [h.2]
  rfl
theorem zF_4 (cy : Nat → ClassId) {Z : zZ} {S : zS} {a : Nat} (h : zk Z a 4) : zF cy Z S a = .inr (4, zfs Z S a 4) := by
  unfold zF
  rw [h.2]
  rfl
theorem zF_5 (cy : Nat → ClassId) {Z : zZ} {S : zS} {a : Nat} (h : zk Z a 5) : zF cy Z S a = .inr (5, zfs Z S a 5) := by
  unfold zF
  rw [h.2]
  rfl
theorem zF_6 (cy : Nat → ClassId) {Z : zZ} {S : zS} {a : Nat} (h : zk Z a 6) : zF cy Z S a = .inr (6, zfs Z S a 6) := by
  unfold zF
  rw [h.2]
  rfl
theorem zF_7 (cy : Nat → ClassId) {Z : zZ} {S : zS} {a : Nat} (h : zk Z a 7) : zF cy Z S a = .inr (7, zfs Z S a 7) := by
  unfold zF
  rw [h.2]
  rfl
theorem zF_8 (cy : Nat → ClassId) {Z : zZ} {S : zS} {a : Nat} (h : zk Z a 8) : zF cy Z S a = .inl (cy 0, zN Z a, .inl (zI S a)) := by
  unfold zF
  rw [h.2]
  rfl
theorem zF_9 (cy : Nat → ClassId) {Z : zZ} {S : zS} {a : Nat} (h : zk Z a 9) : zF cy Z S a = .inl (cy 1, zN Z a, .inr (.inl (zJ S a))) := by
  unfold zF
  rw [h.2]
  rfl
theorem zF_10 (cy : Nat → ClassId) {Z : zZ} {S : zS} {a : Nat} (h : zk Z a 10) : zF cy Z S a = .inl (cy 2, zN Z a, .inl (zI S a)) := by
  unfold zF
  rw [h.2]
  rfl
theorem zF_11 (cy : Nat → ClassId) {Z : zZ} {S : zS} {a : Nat} (h : zk Z a 11) : zF cy Z S a = .inl (cy 3, zN Z a, .inr (.inr (.inr (.inr (zR S a))))) := by
  unfold zF
  rw [h.2]
  rfl
theorem zF_12 (cy : Nat → ClassId) {Z : zZ} {S : zS} {a : Nat} (h : zk Z a 12) : zF cy Z S a = .inl (cy 4, zN Z a, .inr (.inr (.inr (.inr (zQ Z a))))) := by
  unfold zF
  rw [h.2]
  rfl
theorem zF_13 (cy : Nat → ClassId) {Z : zZ} {S : zS} {a : Nat} (h : zk Z a 13) : zF cy Z S a = .inl (cy 5, zN Z a, .inr (.inr (.inr (.inr (zQ Z a))))) := by
  unfold zF
  rw [h.2]
  rfl
theorem zF_cong (cy : Nat → ClassId) {Z Z' : zZ} {S S' : zS} {b : Nat} (hK : zK Z' b = zK Z b) (hN : zN Z' b = zN Z b) (hQ : zQ Z' b = zQ Z b) (hI : zI S' b = zI S b) (hJ : zJ S' b = zJ S b) (hR : zR S' b = zR S b) : zF cy Z' S' b = zF cy Z S b := by
  have e : ∀ k, zfs Z' S' b k = zfs Z S b k := by
    intro k
    unfold zfs
    rw [hI, hJ, hR, hQ]
  unfold zF
  rw [hK, hN, hI, hJ, hR, hQ]
  simp only [e]
theorem zF_offI (cy : Nat → ClassId) (Z : zZ) (S : zS) (a j : Nat) (v : Int32) : ∀ b, b ≠ a → zF cy Z (zsI S a j v) b = zF cy Z S b := fun b h => zF_cong cy rfl rfl rfl (zu_ne _ a j v b h) rfl rfl
theorem zF_offJ (cy : Nat → ClassId) (Z : zZ) (S : zS) (a j : Nat) (v : Int64) : ∀ b, b ≠ a → zF cy Z (zsJ S a j v) b = zF cy Z S b := fun b h => zF_cong cy rfl rfl rfl rfl (zu_ne _ a j v b h) rfl
theorem zF_offR (cy : Nat → ClassId) (Z : zZ) (S : zS) (a j : Nat) (v : Option Nat) : ∀ b, b ≠ a → zF cy Z (zsR S a j v) b = zF cy Z S b := fun b h => zF_cong cy rfl rfl rfl rfl rfl (zu_ne _ a j v b h)
theorem zF_offQ (cy : Nat → ClassId) (Z : zZ) (S : zS) (a j : Nat) (v : Option Nat) : ∀ b, b ≠ a → zF cy (zsQ Z a j v) S b = zF cy Z S b := fun b h => zF_cong cy rfl rfl (zu_ne _ a j v b h) rfl rfl rfl
theorem zP_0_0 (Z : zZ) (S : zS) (a : Nat) (v : Option Nat) : zfs (zsQ Z a 0 v) S a 0 = (zfs Z S a 0).set 0 (va_rf v) := by
  simp [zfs, zI_sI, zJ_sJ, zR_sR, zQ_sQ, zI_sJ, zI_sR, zJ_sI, zJ_sR, zR_sI, zR_sJ]
theorem zP_0_1 (Z : zZ) (S : zS) (a : Nat) (v : Int32) : zfs Z (zsI S a 1 v) a 0 = (zfs Z S a 0).set 1 (.int v) := by
  simp [zfs, zI_sI, zJ_sJ, zR_sR, zQ_sQ, zI_sJ, zI_sR, zJ_sI, zJ_sR, zR_sI, zR_sJ]
theorem zP_1_0 (Z : zZ) (S : zS) (a : Nat) (v : Int32) : zfs Z (zsI S a 0 v) a 1 = (zfs Z S a 1).set 0 (.int v) := by
  simp [zfs, zI_sI, zJ_sJ, zR_sR, zQ_sQ, zI_sJ, zI_sR, zJ_sI, zJ_sR, zR_sI, zR_sJ]
theorem zP_1_1 (Z : zZ) (S : zS) (a : Nat) (v : Int32) : zfs Z (zsI S a 1 v) a 1 = (zfs Z S a 1).set 1 (.int v) := by
  simp [zfs, zI_sI, zJ_sJ, zR_sR, zQ_sQ, zI_sJ, zI_sR, zJ_sI, zJ_sR, zR_sI, zR_sJ]
theorem zP_1_2 (Z : zZ) (S : zS) (a : Nat) (v : Int64) : zfs Z (zsJ S a 2 v) a 1 = (zfs Z S a 1).set 2 (.long v) := by
  simp [zfs, zI_sI, zJ_sJ, zR_sR, zQ_sQ, zI_sJ, zI_sR, zJ_sI, zJ_sR, zR_sI, zR_sJ]
theorem zP_1_3 (Z : zZ) (S : zS) (a : Nat) (v : Int32) : zfs Z (zsI S a 3 v) a 1 = (zfs Z S a 1).set 3 (.int v) := by
  simp [zfs, zI_sI, zJ_sJ, zR_sR, zQ_sQ, zI_sJ, zI_sR, zJ_sI, zJ_sR, zR_sI, zR_sJ]
theorem zP_2_0 (Z : zZ) (S : zS) (a : Nat) (v : Int32) : zfs Z (zsI S a 0 v) a 2 = (zfs Z S a 2).set 0 (.int v) := by
  simp [zfs, zI_sI, zJ_sJ, zR_sR, zQ_sQ, zI_sJ, zI_sR, zJ_sI, zJ_sR, zR_sI, zR_sJ]
theorem zP_2_1 (Z : zZ) (S : zS) (a : Nat) (v : Option Nat) : zfs (zsQ Z a 1 v) S a 2 = (zfs Z S a 2).set 1 (va_rf v) := by
  simp [zfs, zI_sI, zJ_sJ, zR_sR, zQ_sQ, zI_sJ, zI_sR, zJ_sI, zJ_sR, zR_sI, zR_sJ]
theorem zP_2_2 (Z : zZ) (S : zS) (a : Nat) (v : Option Nat) : zfs (zsQ Z a 2 v) S a 2 = (zfs Z S a 2).set 2 (va_rf v) := by
  simp [zfs, zI_sI, zJ_sJ, zR_sR, zQ_sQ, zI_sJ, zI_sR, zJ_sI, zJ_sR, zR_sI, zR_sJ]
theorem zP_2_3 (Z : zZ) (S : zS) (a : Nat) (v : Option Nat) : zfs (zsQ Z a 3 v) S a 2 = (zfs Z S a 2).set 3 (va_rf v) := by
  simp [zfs, zI_sI, zJ_sJ, zR_sR, zQ_sQ, zI_sJ, zI_sR, zJ_sI, zJ_sR, zR_sI, zR_sJ]
theorem zP_2_4 (Z : zZ) (S : zS) (a : Nat) (v : Option Nat) : zfs (zsQ Z a 4 v) S a 2 = (zfs Z S a 2).set 4 (va_rf v) := by
  simp [zfs, zI_sI, zJ_sJ, zR_sR, zQ_sQ, zI_sJ, zI_sR, zJ_sI, zJ_sR, zR_sI, zR_sJ]
theorem zP_2_5 (Z : zZ) (S : zS) (a : Nat) (v : Int32) : zfs Z (zsI S a 5 v) a 2 = (zfs Z S a 2).set 5 (.int v) := by
  simp [zfs, zI_sI, zJ_sJ, zR_sR, zQ_sQ, zI_sJ, zI_sR, zJ_sI, zJ_sR, zR_sI, zR_sJ]
theorem zP_2_6 (Z : zZ) (S : zS) (a : Nat) (v : Int32) : zfs Z (zsI S a 6 v) a 2 = (zfs Z S a 2).set 6 (.int v) := by
  simp [zfs, zI_sI, zJ_sJ, zR_sR, zQ_sQ, zI_sJ, zI_sR, zJ_sI, zJ_sR, zR_sI, zR_sJ]
theorem zP_2_7 (Z : zZ) (S : zS) (a : Nat) (v : Option Nat) : zfs Z (zsR S a 7 v) a 2 = (zfs Z S a 2).set 7 (va_rf v) := by
  simp [zfs, zI_sI, zJ_sJ, zR_sR, zQ_sQ, zI_sJ, zI_sR, zJ_sI, zJ_sR, zR_sI, zR_sJ]
theorem zP_2_8 (Z : zZ) (S : zS) (a : Nat) (v : Int32) : zfs Z (zsI S a 8 v) a 2 = (zfs Z S a 2).set 8 (.int v) := by
  simp [zfs, zI_sI, zJ_sJ, zR_sR, zQ_sQ, zI_sJ, zI_sR, zJ_sI, zJ_sR, zR_sI, zR_sJ]
theorem zP_2_9 (Z : zZ) (S : zS) (a : Nat) (v : Int32) : zfs Z (zsI S a 9 v) a 2 = (zfs Z S a 2).set 9 (.int v) := by
  simp [zfs, zI_sI, zJ_sJ, zR_sR, zQ_sQ, zI_sJ, zI_sR, zJ_sI, zJ_sR, zR_sI, zR_sJ]
theorem zP_2_10 (Z : zZ) (S : zS) (a : Nat) (v : Int32) : zfs Z (zsI S a 10 v) a 2 = (zfs Z S a 2).set 10 (.int v) := by
  simp [zfs, zI_sI, zJ_sJ, zR_sR, zQ_sQ, zI_sJ, zI_sR, zJ_sI, zJ_sR, zR_sI, zR_sJ]
theorem zP_2_11 (Z : zZ) (S : zS) (a : Nat) (v : Int32) : zfs Z (zsI S a 11 v) a 2 = (zfs Z S a 2).set 11 (.int v) := by
  simp [zfs, zI_sI, zJ_sJ, zR_sR, zQ_sQ, zI_sJ, zI_sR, zJ_sI, zJ_sR, zR_sI, zR_sJ]
theorem zP_2_12 (Z : zZ) (S : zS) (a : Nat) (v : Int32) : zfs Z (zsI S a 12 v) a 2 = (zfs Z S a 2).set 12 (.int v) := by
  simp [zfs, zI_sI, zJ_sJ, zR_sR, zQ_sQ, zI_sJ, zI_sR, zJ_sI, zJ_sR, zR_sI, zR_sJ]
theorem zP_3_0 (Z : zZ) (S : zS) (a : Nat) (v : Option Nat) : zfs (zsQ Z a 0 v) S a 3 = (zfs Z S a 3).set 0 (va_rf v) := by
  simp [zfs, zI_sI, zJ_sJ, zR_sR, zQ_sQ, zI_sJ, zI_sR, zJ_sI, zJ_sR, zR_sI, zR_sJ]
theorem zP_3_1 (Z : zZ) (S : zS) (a : Nat) (v : Int32) : zfs Z (zsI S a 1 v) a 3 = (zfs Z S a 3).set 1 (.int v) := by
  simp [zfs, zI_sI, zJ_sJ, zR_sR, zQ_sQ, zI_sJ, zI_sR, zJ_sI, zJ_sR, zR_sI, zR_sJ]
theorem zP_4_0 (Z : zZ) (S : zS) (a : Nat) (v : Option Nat) : zfs (zsQ Z a 0 v) S a 4 = (zfs Z S a 4).set 0 (va_rf v) := by
  simp [zfs, zI_sI, zJ_sJ, zR_sR, zQ_sQ, zI_sJ, zI_sR, zJ_sI, zJ_sR, zR_sI, zR_sJ]
theorem zP_4_1 (Z : zZ) (S : zS) (a : Nat) (v : Option Nat) : zfs (zsQ Z a 1 v) S a 4 = (zfs Z S a 4).set 1 (va_rf v) := by
  simp [zfs, zI_sI, zJ_sJ, zR_sR, zQ_sQ, zI_sJ, zI_sR, zJ_sI, zJ_sR, zR_sI, zR_sJ]
theorem zP_4_2 (Z : zZ) (S : zS) (a : Nat) (v : Int32) : zfs Z (zsI S a 2 v) a 4 = (zfs Z S a 4).set 2 (.int v) := by
  simp [zfs, zI_sI, zJ_sJ, zR_sR, zQ_sQ, zI_sJ, zI_sR, zJ_sI, zJ_sR, zR_sI, zR_sJ]
theorem zP_4_3 (Z : zZ) (S : zS) (a : Nat) (v : Int64) : zfs Z (zsJ S a 3 v) a 4 = (zfs Z S a 4).set 3 (.long v) := by
  simp [zfs, zI_sI, zJ_sJ, zR_sR, zQ_sQ, zI_sJ, zI_sR, zJ_sI, zJ_sR, zR_sI, zR_sJ]
theorem zP_4_4 (Z : zZ) (S : zS) (a : Nat) (v : Int32) : zfs Z (zsI S a 4 v) a 4 = (zfs Z S a 4).set 4 (.int v) := by
  simp [zfs, zI_sI, zJ_sJ, zR_sR, zQ_sQ, zI_sJ, zI_sR, zJ_sI, zJ_sR, zR_sI, zR_sJ]
theorem zP_5_0 (Z : zZ) (S : zS) (a : Nat) (v : Option Nat) : zfs (zsQ Z a 0 v) S a 5 = (zfs Z S a 5).set 0 (va_rf v) := by
  simp [zfs, zI_sI, zJ_sJ, zR_sR, zQ_sQ, zI_sJ, zI_sR, zJ_sI, zJ_sR, zR_sI, zR_sJ]
theorem zP_5_1 (Z : zZ) (S : zS) (a : Nat) (v : Option Nat) : zfs (zsQ Z a 1 v) S a 5 = (zfs Z S a 5).set 1 (va_rf v) := by
  simp [zfs, zI_sI, zJ_sJ, zR_sR, zQ_sQ, zI_sJ, zI_sR, zJ_sI, zJ_sR, zR_sI, zR_sJ]
theorem zP_5_2 (Z : zZ) (S : zS) (a : Nat) (v : Int32) : zfs Z (zsI S a 2 v) a 5 = (zfs Z S a 5).set 2 (.int v) := by
  simp [zfs, zI_sI, zJ_sJ, zR_sR, zQ_sQ, zI_sJ, zI_sR, zJ_sI, zJ_sR, zR_sI, zR_sJ]
theorem zP_5_3 (Z : zZ) (S : zS) (a : Nat) (v : Int32) : zfs Z (zsI S a 3 v) a 5 = (zfs Z S a 5).set 3 (.int v) := by
  simp [zfs, zI_sI, zJ_sJ, zR_sR, zQ_sQ, zI_sJ, zI_sR, zJ_sI, zJ_sR, zR_sI, zR_sJ]
theorem zP_5_4 (Z : zZ) (S : zS) (a : Nat) (v : Int32) : zfs Z (zsI S a 4 v) a 5 = (zfs Z S a 5).set 4 (.int v) := by
  simp [zfs, zI_sI, zJ_sJ, zR_sR, zQ_sQ, zI_sJ, zI_sR, zJ_sI, zJ_sR, zR_sI, zR_sJ]
theorem zP_5_5 (Z : zZ) (S : zS) (a : Nat) (v : Int32) : zfs Z (zsI S a 5 v) a 5 = (zfs Z S a 5).set 5 (.int v) := by
  simp [zfs, zI_sI, zJ_sJ, zR_sR, zQ_sQ, zI_sJ, zI_sR, zJ_sI, zJ_sR, zR_sI, zR_sJ]
theorem zP_6_0 (Z : zZ) (S : zS) (a : Nat) (v : Int32) : zfs Z (zsI S a 0 v) a 6 = (zfs Z S a 6).set 0 (.int v) := by
  simp [zfs, zI_sI, zJ_sJ, zR_sR, zQ_sQ, zI_sJ, zI_sR, zJ_sI, zJ_sR, zR_sI, zR_sJ]
theorem zP_6_1 (Z : zZ) (S : zS) (a : Nat) (v : Option Nat) : zfs (zsQ Z a 1 v) S a 6 = (zfs Z S a 6).set 1 (va_rf v) := by
  simp [zfs, zI_sI, zJ_sJ, zR_sR, zQ_sQ, zI_sJ, zI_sR, zJ_sI, zJ_sR, zR_sI, zR_sJ]
theorem zP_6_2 (Z : zZ) (S : zS) (a : Nat) (v : Option Nat) : zfs (zsQ Z a 2 v) S a 6 = (zfs Z S a 6).set 2 (va_rf v) := by
  simp [zfs, zI_sI, zJ_sJ, zR_sR, zQ_sQ, zI_sJ, zI_sR, zJ_sI, zJ_sR, zR_sI, zR_sJ]
theorem zP_6_3 (Z : zZ) (S : zS) (a : Nat) (v : Option Nat) : zfs (zsQ Z a 3 v) S a 6 = (zfs Z S a 6).set 3 (va_rf v) := by
  simp [zfs, zI_sI, zJ_sJ, zR_sR, zQ_sQ, zI_sJ, zI_sR, zJ_sI, zJ_sR, zR_sI, zR_sJ]
theorem zP_7_0 (Z : zZ) (S : zS) (a : Nat) (v : Int32) : zfs Z (zsI S a 0 v) a 7 = (zfs Z S a 7).set 0 (.int v) := by
  simp [zfs, zI_sI, zJ_sJ, zR_sR, zQ_sQ, zI_sJ, zI_sR, zJ_sI, zJ_sR, zR_sI, zR_sJ]
theorem zP_7_1 (Z : zZ) (S : zS) (a : Nat) (v : Int32) : zfs Z (zsI S a 1 v) a 7 = (zfs Z S a 7).set 1 (.int v) := by
  simp [zfs, zI_sI, zJ_sJ, zR_sR, zQ_sQ, zI_sJ, zI_sR, zJ_sI, zJ_sR, zR_sI, zR_sJ]
theorem zP_7_2 (Z : zZ) (S : zS) (a : Nat) (v : Int32) : zfs Z (zsI S a 2 v) a 7 = (zfs Z S a 7).set 2 (.int v) := by
  simp [zfs, zI_sI, zJ_sJ, zR_sR, zQ_sQ, zI_sJ, zI_sR, zJ_sI, zJ_sR, zR_sI, zR_sJ]
theorem zP_7_3 (Z : zZ) (S : zS) (a : Nat) (v : Option Nat) : zfs (zsQ Z a 3 v) S a 7 = (zfs Z S a 7).set 3 (va_rf v) := by
  simp [zfs, zI_sI, zJ_sJ, zR_sR, zQ_sQ, zI_sJ, zI_sR, zJ_sI, zJ_sR, zR_sI, zR_sJ]
theorem zP_7_4 (Z : zZ) (S : zS) (a : Nat) (v : Option Nat) : zfs (zsQ Z a 4 v) S a 7 = (zfs Z S a 7).set 4 (va_rf v) := by
  simp [zfs, zI_sI, zJ_sJ, zR_sR, zQ_sQ, zI_sJ, zI_sR, zJ_sI, zJ_sR, zR_sI, zR_sJ]
theorem zP_7_5 (Z : zZ) (S : zS) (a : Nat) (v : Option Nat) : zfs (zsQ Z a 5 v) S a 7 = (zfs Z S a 7).set 5 (va_rf v) := by
  simp [zfs, zI_sI, zJ_sJ, zR_sR, zQ_sQ, zI_sJ, zI_sR, zJ_sI, zJ_sR, zR_sI, zR_sJ]
theorem zP_7_6 (Z : zZ) (S : zS) (a : Nat) (v : Option Nat) : zfs (zsQ Z a 6 v) S a 7 = (zfs Z S a 7).set 6 (va_rf v) := by
  simp [zfs, zI_sI, zJ_sJ, zR_sR, zQ_sQ, zI_sJ, zI_sR, zJ_sI, zJ_sR, zR_sI, zR_sJ]
theorem zP_7_7 (Z : zZ) (S : zS) (a : Nat) (v : Option Nat) : zfs (zsQ Z a 7 v) S a 7 = (zfs Z S a 7).set 7 (va_rf v) := by
  simp [zfs, zI_sI, zJ_sJ, zR_sR, zQ_sQ, zI_sJ, zI_sR, zJ_sI, zJ_sR, zR_sI, zR_sJ]
theorem zP_7_8 (Z : zZ) (S : zS) (a : Nat) (v : Option Nat) : zfs (zsQ Z a 8 v) S a 7 = (zfs Z S a 7).set 8 (va_rf v) := by
  simp [zfs, zI_sI, zJ_sJ, zR_sR, zQ_sQ, zI_sJ, zI_sR, zJ_sI, zJ_sR, zR_sI, zR_sJ]
theorem zP_7_9 (Z : zZ) (S : zS) (a : Nat) (v : Option Nat) : zfs (zsQ Z a 9 v) S a 7 = (zfs Z S a 7).set 9 (va_rf v) := by
  simp [zfs, zI_sI, zJ_sJ, zR_sR, zQ_sQ, zI_sJ, zI_sR, zJ_sI, zJ_sR, zR_sI, zR_sJ]
theorem zP_7_10 (Z : zZ) (S : zS) (a : Nat) (v : Option Nat) : zfs (zsQ Z a 10 v) S a 7 = (zfs Z S a 7).set 10 (va_rf v) := by
  simp [zfs, zI_sI, zJ_sJ, zR_sR, zQ_sQ, zI_sJ, zI_sR, zJ_sI, zJ_sR, zR_sI, zR_sJ]
theorem zP_7_11 (Z : zZ) (S : zS) (a : Nat) (v : Option Nat) : zfs (zsQ Z a 11 v) S a 7 = (zfs Z S a 7).set 11 (va_rf v) := by
  simp [zfs, zI_sI, zJ_sJ, zR_sR, zQ_sQ, zI_sJ, zI_sR, zJ_sI, zJ_sR, zR_sI, zR_sJ]
theorem zP_7_12 (Z : zZ) (S : zS) (a : Nat) (v : Option Nat) : zfs (zsQ Z a 12 v) S a 7 = (zfs Z S a 7).set 12 (va_rf v) := by
  simp [zfs, zI_sI, zJ_sJ, zR_sR, zQ_sQ, zI_sJ, zI_sR, zJ_sI, zJ_sR, zR_sI, zR_sJ]
theorem zP_7_13 (Z : zZ) (S : zS) (a : Nat) (v : Option Nat) : zfs (zsQ Z a 13 v) S a 7 = (zfs Z S a 7).set 13 (va_rf v) := by
  simp [zfs, zI_sI, zJ_sJ, zR_sR, zQ_sQ, zI_sJ, zI_sR, zJ_sI, zJ_sR, zR_sI, zR_sJ]
theorem zP_7_14 (Z : zZ) (S : zS) (a : Nat) (v : Option Nat) : zfs (zsQ Z a 14 v) S a 7 = (zfs Z S a 7).set 14 (va_rf v) := by
  simp [zfs, zI_sI, zJ_sJ, zR_sR, zQ_sQ, zI_sJ, zI_sR, zJ_sI, zJ_sR, zR_sI, zR_sJ]
theorem zP_7_15 (Z : zZ) (S : zS) (a : Nat) (v : Option Nat) : zfs (zsQ Z a 15 v) S a 7 = (zfs Z S a 7).set 15 (va_rf v) := by
  simp [zfs, zI_sI, zJ_sJ, zR_sR, zQ_sQ, zI_sJ, zI_sR, zJ_sI, zJ_sR, zR_sI, zR_sJ]
theorem zP_7_16 (Z : zZ) (S : zS) (a : Nat) (v : Option Nat) : zfs (zsQ Z a 16 v) S a 7 = (zfs Z S a 7).set 16 (va_rf v) := by
  simp [zfs, zI_sI, zJ_sJ, zR_sR, zQ_sQ, zI_sJ, zI_sR, zJ_sI, zJ_sR, zR_sI, zR_sJ]
theorem zP_7_17 (Z : zZ) (S : zS) (a : Nat) (v : Option Nat) : zfs (zsQ Z a 17 v) S a 7 = (zfs Z S a 7).set 17 (va_rf v) := by
  simp [zfs, zI_sI, zJ_sJ, zR_sR, zQ_sQ, zI_sJ, zI_sR, zJ_sI, zJ_sR, zR_sI, zR_sJ]
theorem zP_7_18 (Z : zZ) (S : zS) (a : Nat) (v : Option Nat) : zfs (zsQ Z a 18 v) S a 7 = (zfs Z S a 7).set 18 (va_rf v) := by
  simp [zfs, zI_sI, zJ_sJ, zR_sR, zQ_sQ, zI_sJ, zI_sR, zJ_sI, zJ_sR, zR_sI, zR_sJ]
theorem zP_7_19 (Z : zZ) (S : zS) (a : Nat) (v : Option Nat) : zfs (zsQ Z a 19 v) S a 7 = (zfs Z S a 7).set 19 (va_rf v) := by
  simp [zfs, zI_sI, zJ_sJ, zR_sR, zQ_sQ, zI_sJ, zI_sR, zJ_sI, zJ_sR, zR_sI, zR_sJ]
theorem zP_7_20 (Z : zZ) (S : zS) (a : Nat) (v : Option Nat) : zfs (zsQ Z a 20 v) S a 7 = (zfs Z S a 7).set 20 (va_rf v) := by
  simp [zfs, zI_sI, zJ_sJ, zR_sR, zQ_sQ, zI_sJ, zI_sR, zJ_sI, zJ_sR, zR_sI, zR_sJ]
theorem zP_7_21 (Z : zZ) (S : zS) (a : Nat) (v : Option Nat) : zfs (zsQ Z a 21 v) S a 7 = (zfs Z S a 7).set 21 (va_rf v) := by
  simp [zfs, zI_sI, zJ_sJ, zR_sR, zQ_sQ, zI_sJ, zI_sR, zJ_sI, zJ_sR, zR_sI, zR_sJ]
theorem zP_7_22 (Z : zZ) (S : zS) (a : Nat) (v : Option Nat) : zfs (zsQ Z a 22 v) S a 7 = (zfs Z S a 7).set 22 (va_rf v) := by
  simp [zfs, zI_sI, zJ_sJ, zR_sR, zQ_sQ, zI_sJ, zI_sR, zJ_sI, zJ_sR, zR_sI, zR_sJ]
theorem zP_7_23 (Z : zZ) (S : zS) (a : Nat) (v : Option Nat) : zfs (zsQ Z a 23 v) S a 7 = (zfs Z S a 7).set 23 (va_rf v) := by
  simp [zfs, zI_sI, zJ_sJ, zR_sR, zQ_sQ, zI_sJ, zI_sR, zJ_sI, zJ_sR, zR_sI, zR_sJ]
theorem zP_7_24 (Z : zZ) (S : zS) (a : Nat) (v : Option Nat) : zfs (zsQ Z a 24 v) S a 7 = (zfs Z S a 7).set 24 (va_rf v) := by
  simp [zfs, zI_sI, zJ_sJ, zR_sR, zQ_sQ, zI_sJ, zI_sR, zJ_sI, zJ_sR, zR_sI, zR_sJ]
theorem zP_7_25 (Z : zZ) (S : zS) (a : Nat) (v : Option Nat) : zfs (zsQ Z a 25 v) S a 7 = (zfs Z S a 7).set 25 (va_rf v) := by
  simp [zfs, zI_sI, zJ_sJ, zR_sR, zQ_sQ, zI_sJ, zI_sR, zJ_sI, zJ_sR, zR_sI, zR_sJ]
theorem zP_7_26 (Z : zZ) (S : zS) (a : Nat) (v : Option Nat) : zfs (zsQ Z a 26 v) S a 7 = (zfs Z S a 7).set 26 (va_rf v) := by
  simp [zfs, zI_sI, zJ_sJ, zR_sR, zQ_sQ, zI_sJ, zI_sR, zJ_sI, zJ_sR, zR_sI, zR_sJ]
theorem zP_7_27 (Z : zZ) (S : zS) (a : Nat) (v : Option Nat) : zfs (zsQ Z a 27 v) S a 7 = (zfs Z S a 7).set 27 (va_rf v) := by
  simp [zfs, zI_sI, zJ_sJ, zR_sR, zQ_sQ, zI_sJ, zI_sR, zJ_sI, zJ_sR, zR_sI, zR_sJ]
theorem zP_7_28 (Z : zZ) (S : zS) (a : Nat) (v : Option Nat) : zfs (zsQ Z a 28 v) S a 7 = (zfs Z S a 7).set 28 (va_rf v) := by
  simp [zfs, zI_sI, zJ_sJ, zR_sR, zQ_sQ, zI_sJ, zI_sR, zJ_sI, zJ_sR, zR_sI, zR_sJ]
theorem zP_7_29 (Z : zZ) (S : zS) (a : Nat) (v : Option Nat) : zfs (zsQ Z a 29 v) S a 7 = (zfs Z S a 7).set 29 (va_rf v) := by
  simp [zfs, zI_sI, zJ_sJ, zR_sR, zQ_sQ, zI_sJ, zI_sR, zJ_sI, zJ_sR, zR_sI, zR_sJ]
theorem zP_7_30 (Z : zZ) (S : zS) (a : Nat) (v : Option Nat) : zfs (zsQ Z a 30 v) S a 7 = (zfs Z S a 7).set 30 (va_rf v) := by
  simp [zfs, zI_sI, zJ_sJ, zR_sR, zQ_sQ, zI_sJ, zI_sR, zJ_sI, zJ_sR, zR_sI, zR_sJ]
theorem zP_7_31 (Z : zZ) (S : zS) (a : Nat) (v : Option Nat) : zfs (zsQ Z a 31 v) S a 7 = (zfs Z S a 7).set 31 (va_rf v) := by
  simp [zfs, zI_sI, zJ_sJ, zR_sR, zQ_sQ, zI_sJ, zI_sR, zJ_sI, zJ_sR, zR_sI, zR_sJ]
theorem zP_7_32 (Z : zZ) (S : zS) (a : Nat) (v : Option Nat) : zfs (zsQ Z a 32 v) S a 7 = (zfs Z S a 7).set 32 (va_rf v) := by
  simp [zfs, zI_sI, zJ_sJ, zR_sR, zQ_sQ, zI_sJ, zI_sR, zJ_sI, zJ_sR, zR_sI, zR_sJ]
theorem zP_7_33 (Z : zZ) (S : zS) (a : Nat) (v : Option Nat) : zfs (zsQ Z a 33 v) S a 7 = (zfs Z S a 7).set 33 (va_rf v) := by
  simp [zfs, zI_sI, zJ_sJ, zR_sR, zQ_sQ, zI_sJ, zI_sR, zJ_sI, zJ_sR, zR_sI, zR_sJ]
theorem zP_7_34 (Z : zZ) (S : zS) (a : Nat) (v : Option Nat) : zfs (zsQ Z a 34 v) S a 7 = (zfs Z S a 7).set 34 (va_rf v) := by
  simp [zfs, zI_sI, zJ_sJ, zR_sR, zQ_sQ, zI_sJ, zI_sR, zJ_sI, zJ_sR, zR_sI, zR_sJ]
theorem zP_7_35 (Z : zZ) (S : zS) (a : Nat) (v : Option Nat) : zfs (zsQ Z a 35 v) S a 7 = (zfs Z S a 7).set 35 (va_rf v) := by
  simp [zfs, zI_sI, zJ_sJ, zR_sR, zQ_sQ, zI_sJ, zI_sR, zJ_sI, zJ_sR, zR_sI, zR_sJ]
theorem zget {cy : Nat → ClassId} {Z : zZ} {S : zS} {a : Nat} {e : va_E} (h : a ∈ zL Z) (he : zF cy Z S a = e) : ∃ k : Nat, (zW cy Z S)[k]? = some (a, e) := by
  obtain ⟨k, hk⟩ := va_pl_get (X := []) (f := zF cy Z S) h
  exact ⟨k, he ▸ hk⟩
theorem zset {cy : Nat → ClassId} {Z Z' : zZ} {S S' : zS} {A : Nat → Prop} {a k : Nat} {e0 e : va_E} (hD : va_D A (zW cy Z S)) (h : a ∈ zL Z) (he0 : zF cy Z S a = e0) (hk : (zW cy Z S)[k]? = some (a, e0)) (hL : zL Z' = zL Z) (he : zF cy Z' S' a = e) (hoff : ∀ b, b ≠ a → zF cy Z' S' b = zF cy Z S b) : (zW cy Z S).set k (a, e) = zW cy Z' S' := by
  subst he0
  have h1 := va_pl_set (X := []) (f := zF cy Z S) (e := e) hD h hk
  have h2 : va_pl (zL Z) (va_up (zF cy Z S) a e) = zW cy Z' S' := by
    unfold zW
    rw [hL]
    refine va_pl_congr (fun b => ?_)
    by_cases hb : b = a
    · subst hb
      rw [va_up_self, he]
    · rw [va_up_ne _ _ hb, hoff b hb]
  exact h1.trans h2
theorem zwm {i : Nat} {w : Cond} {Ts : List Cond} (h : Ts[i]? = some w) : w ∈ Ts := List.mem_of_getElem? h
theorem zrfc (r : Option Nat) : (va_rf r).category = 1 := by cases r <;> rfl
/-- the texts of the throws -/
def zTx : List (Nat × String) := [(66, "the node is not up or has too much pending"), (86, "the node does not hold a token"), (122, "the node is not up"), (158, "there is no such group"), (168, "the node is up"), (206, "nothing is told of that number"), (221, "there is no such entry"), (224, "an entry has no such part"), (233, "there is no such node"), (235, "there is no such key")]
/-- words that stand beside the lists: nest mates' links -/
def zBw : List Cond := [.methodLinkNest RX6 24 yX5_init RX6, .methodLinkNest RX2 11 yX3_init RX6, .methodLinkNest RX2 20 yX4_init RX6, .methodLinkNest RX2 27 yX0_init RX6, .methodLinkNest RX2 88 yX6_isIn RX6, .methodLinkNest RX5 29 yX6_leastOf RX6, .methodLinkNest RX5 36 yX6_isIn RX6, .castable "java/lang/IllegalStateException" "java/lang/IllegalStateException", .castable "java/lang/IndexOutOfBoundsException" "java/lang/IndexOutOfBoundsException", .castable "java/lang/IllegalArgumentException" "java/lang/IllegalArgumentException", .declares ⟨"java/lang/RuntimeException", "<init>", "(Ljava/lang/String;)V"⟩, .declares ⟨"java/lang/Exception", "<init>", "(Ljava/lang/String;)V"⟩, .declares ⟨"java/lang/Throwable", "<init>", "(Ljava/lang/String;)V"⟩]
theorem zBw_on : ∀ w ∈ zBw, w.onTables = true := by decide +kernel
theorem zBw_warm {s U : State} (hW : s.WarmedH U.vm) : ∀ w ∈ zBw, va_Nw w s → va_Nw w U := by
  intro w hw h
  simp only [zBw, List.mem_cons, List.not_mem_nil, or_false] at hw
  rcases hw with rfl | rfl | rfl | rfl | rfl | rfl | rfl | rfl | rfl | rfl | rfl | rfl | rfl <;> first | exact va_Nw.warmM hW h | exact va_Nw.warmC hW h | exact va_Nw.warmD hW h
/-- what a method stands on, beside the words of its list -/
def zV (D : va_G) (cy : Nat → ClassId) (A : Nat → Prop) (U : State) (H : Heap) : Prop := va_K D vwCl (zTy cy) U ∧ (∀ w ∈ zBw, va_Nw w U) ∧ vx_Zq Bundle.tN "UNASSIGNED_STACK" Bundle.steD A U H ∧ vx_Zq Bundle.tN "SUPPRESSED_SENTINEL" Bundle.listD A U H ∧ (∀ x ∈ zTx, ∃ sa : Nat, vk_R RX6 x.1 x.2 sa U) ∧ va_AO RX1 U ∧ va_AO RX2 U ∧ va_AO RX5 U ∧ va_Nc "java/lang/IllegalStateException" "java/lang/IndexOutOfBoundsException" U ∧ va_Nc "java/lang/IllegalArgumentException" "java/lang/IndexOutOfBoundsException" U
theorem zV.blind {D : va_G} {cy : Nat → ClassId} {A : Nat → Prop} {U : State} {H : Heap} {g : JFrame} {mk : MethodId} {a : Array Value} (h : zV D cy A U H) : zV D cy A (U.calling g mk a) H := by
  obtain ⟨h1, h2, h3, h4, h5, h7, h8, h9, h10, h11⟩ := h
  refine ⟨va_K.moved (u := U) (U := U.calling g mk a) (Vm.Alike.refl U.vm) h1, fun w hw => va_Nw.same (zBw_on w hw) (u := U) rfl (h2 w hw), vx_Zq.moved (u := U) (U := U.calling g mk a) (Vm.Alike.refl U.vm) h3, vx_Zq.moved (u := U) (U := U.calling g mk a) (Vm.Alike.refl U.vm) h4, fun x hx => ?_, va_AO.moved (u := U) (U := U.calling g mk a) (Vm.Alike.refl U.vm) h7, va_AO.moved (u := U) (U := U.calling g mk a) (Vm.Alike.refl U.vm) h8, va_AO.moved (u := U) (U := U.calling g mk a) (Vm.Alike.refl U.vm) h9, va_Nc.moved (u := U) (U := U.calling g mk a) (Vm.Alike.refl U.vm) h10, va_Nc.moved (u := U) (U := U.calling g mk a) (Vm.Alike.refl U.vm) h11⟩
  obtain ⟨sa, h6⟩ := h5 x hx
  exact ⟨sa, vk_R.same (u := U) rfl h6⟩
theorem zV.call {D : va_G} {cy : Nat → ClassId} {A A1 : Nat → Prop} {s U : State} {H : Heap} {locs : List Loc} (h : zV D cy A s s.heap) (hS : va_S A s.heap H locs) (hA : ∀ q, A1 q → A q) (hU : U.heap = H) (hW : s.WarmedH U.vm) : zV D cy A1 U U.heap := by
  obtain ⟨h1, h2, h3, h4, h5, h7, h8, h9, h10, h11⟩ := h
  refine ⟨va_K.moved hW.alike h1, fun w hw => zBw_warm hW w hw (h2 w hw), ?_, ?_, fun x hx => ?_, va_AO.moved hW.alike h7, va_AO.moved hW.alike h8, va_AO.moved hW.alike h9, va_Nc.moved hW.alike h10, va_Nc.moved hW.alike h11⟩
  · rw [hU]
    exact vx_Zq.moved hW.alike ((h3.kept hS.2.1).narrow hA)
  · rw [hU]
    exact vx_Zq.moved hW.alike ((h4.kept hS.2.1).narrow hA)
  · obtain ⟨sa, h6⟩ := h5 x hx
    exact ⟨sa, vk_R.warm hW h6⟩
/-- a contract's start and ends -/
def zPc (D : va_G) (cy : Nat → ClassId) (Z : zZ) (S : zS) (sz : Nat) (av : List Value) : Array Value → State → Prop := va_Pc av (fun U => U.heap.size = sz ∧ va_P D vwCl (zW cy Z S) U.heap ∧ va_D (fun _ => True) (zW cy Z S) ∧ zV D cy (va_A (zW cy Z S) sz) U U.heap)
def zB (D : va_G) (cy : Nat → ClassId) (A : Nat → Prop) (Z : zZ) (u : zS) (t : State) : Prop := va_P D vwCl (zW cy Z u) t.heap ∧ va_D A (zW cy Z u)
theorem zPc_blind {D : va_G} {cy : Nat → ClassId} {Z : zZ} {S : zS} {sz : Nat} {av : List Value} : FrameBlind (zPc D cy Z S sz av) := fun a U g mk q => by
  obtain ⟨q0, q1, q2, q3, q4⟩ := q
  exact ⟨q0, q1, q2, q3, q4.blind⟩
abbrev zA (cy : Nat → ClassId) (Z : zZ) (S : zS) (sz : Nat) : Nat → Prop := va_A (zW cy Z S) sz
/-- the judgement: from here, whatever the heap that holds σ and the locals that hold lv, the machine comes to Q -/
def zG (p : Program) (l : Launch) (e : Env) (R : Room) (s : State) (m : MethodId) (args : Array Value) (below : List Frame) (meth : Method) (c : Code) (D : va_G) (cy : Nat → ClassId) (A : Nat → Prop) (nL : Nat) (cells slots : Nat) (Q : State → Prop) (Z : zZ) (S : zS) (pc : Nat) (lv : List (Nat × Value)) (st : List Value) : Prop :=
  ∀ (H : Heap) (locs : List Loc) (ls : Array Slot), va_P D vwCl (zW cy Z S) H → va_D A (zW cy Z S) → va_S A s.heap H locs → lv_has ls nL lv → W p l e R s m args below meth c H locs cells slots Q (F0 m pc ls st)
def zC (p : Program) (s : State) (m : MethodId) (args : Array Value) (meth : Method) (c : Code) (cc : ByteArray) (nL : Nat) (Ts : List Cond) (own : String) (D : va_G) (cy : Nat → ClassId) (A : Nat → Prop) (rt : Option FieldType) : Prop :=
  CallFix p m c cc nL s args Ts own ∧ zV D cy A s s.heap ∧ (∀ q, s.heap.size ≤ q → A q) ∧ meth.sig.returnType = rt ∧ meth.locks = false
section ZR
variable {p : Program} {l : Launch} {e : Env} {R : Room} {s : State} {m : MethodId} {args : Array Value} {below : List Frame} {meth : Method} {c : Code} {D : va_G} {cy : Nat → ClassId} {A : Nat → Prop} {nL cells slots : Nat} {Q : State → Prop} {Z : zZ} {S : zS} {pc q : Nat} {lv lv' : List (Nat × Value)} {st : List Value} {cc : ByteArray} {Ts : List Cond} {own : String} {rt : Option FieldType}
theorem zg_iconst (C0 : zC p s m args meth c cc nL Ts own D cy A rt) {n : Int} {v : Int32} (hdg : decode cc pc = .ok (.iconst n, 1)) (hv : Int32.ofInt n = v) (hq : pc + 1 = q) (kk : zG p l e R s m args below meth c D cy A nL cells slots Q Z S (q) lv (.int v :: st)) : zG p l e R s m args below meth c D cy A nL cells slots Q Z S (pc) lv (st) := by
  subst hq
  exact fun H locs ls hP hD hS hl => lv_iconst C0.1.1 C0.1.2.1 hdg hv (kk H locs ls hP hD hS hl)
theorem zg_bipush (C0 : zC p s m args meth c cc nL Ts own D cy A rt) {n : Int} {v : Int32} (hdg : decode cc pc = .ok (.bipush n, 2)) (hv : (Int8.ofInt n).toInt32 = v) (hq : pc + 2 = q) (kk : zG p l e R s m args below meth c D cy A nL cells slots Q Z S (q) lv (.int v :: st)) : zG p l e R s m args below meth c D cy A nL cells slots Q Z S (pc) lv (st) := by
  subst hq
  exact fun H locs ls hP hD hS hl => lv_bipush C0.1.1 C0.1.2.1 hdg hv (kk H locs ls hP hD hS hl)
theorem zg_sipush (C0 : zC p s m args meth c cc nL Ts own D cy A rt) {n : Int} {v : Int32} (hdg : decode cc pc = .ok (.sipush n, 3)) (hv : (Int16.ofInt n).toInt32 = v) (hq : pc + 3 = q) (kk : zG p l e R s m args below meth c D cy A nL cells slots Q Z S (q) lv (.int v :: st)) : zG p l e R s m args below meth c D cy A nL cells slots Q Z S (pc) lv (st) := by
  subst hq
  exact fun H locs ls hP hD hS hl => lv_sipush C0.1.1 C0.1.2.1 hdg hv (kk H locs ls hP hD hS hl)
theorem zg_lconst (C0 : zC p s m args meth c cc nL Ts own D cy A rt) {n : Fin 2} {v : Int64} (hdg : decode cc pc = .ok (.lconst n, 1)) (hv : Int64.ofNat (n : Nat) = v) (hq : pc + 1 = q) (kk : zG p l e R s m args below meth c D cy A nL cells slots Q Z S (q) lv (.long v :: st)) : zG p l e R s m args below meth c D cy A nL cells slots Q Z S (pc) lv (st) := by
  subst hq
  exact fun H locs ls hP hD hS hl => lv_lconst C0.1.1 C0.1.2.1 hdg hv (kk H locs ls hP hD hS hl)
theorem zg_iload_n (C0 : zC p s m args meth c cc nL Ts own D cy A rt) {k : Fin 4} {x : Int32} (j : Nat) (hdg : decode cc pc = .ok (.iload_n k, 1)) (hj : lv[j]? = some (k.val, .int x)) (hq : pc + 1 = q) (kk : zG p l e R s m args below meth c D cy A nL cells slots Q Z S (q) lv (.int x :: st)) : zG p l e R s m args below meth c D cy A nL cells slots Q Z S (pc) lv (st) := by
  subst hq
  exact fun H locs ls hP hD hS hl => lv_iload_n C0.1.1 C0.1.2.1 hdg rfl (lv_at hl j hj) (kk H locs ls hP hD hS hl)
theorem zg_iload (C0 : zC p s m args meth c cc nL Ts own D cy A rt) {i : Nat} {x : Int32} (j : Nat) (hdg : decode cc pc = .ok (.iload i, 2)) (hj : lv[j]? = some (i, .int x)) (hq : pc + 2 = q) (kk : zG p l e R s m args below meth c D cy A nL cells slots Q Z S (q) lv (.int x :: st)) : zG p l e R s m args below meth c D cy A nL cells slots Q Z S (pc) lv (st) := by
  subst hq
  exact fun H locs ls hP hD hS hl => lv_iload C0.1.1 C0.1.2.1 hdg (lv_at hl j hj) (kk H locs ls hP hD hS hl)
theorem zg_lload_n (C0 : zC p s m args meth c cc nL Ts own D cy A rt) {k : Fin 4} {x : Int64} (j : Nat) (hdg : decode cc pc = .ok (.lload_n k, 1)) (hj : lv[j]? = some (k.val, .long x)) (hq : pc + 1 = q) (kk : zG p l e R s m args below meth c D cy A nL cells slots Q Z S (q) lv (.long x :: st)) : zG p l e R s m args below meth c D cy A nL cells slots Q Z S (pc) lv (st) := by
  subst hq
  exact fun H locs ls hP hD hS hl => lv_lload_n C0.1.1 C0.1.2.1 hdg rfl (lv_at hl j hj) (kk H locs ls hP hD hS hl)
theorem zg_lload (C0 : zC p s m args meth c cc nL Ts own D cy A rt) {i : Nat} {x : Int64} (j : Nat) (hdg : decode cc pc = .ok (.lload i, 2)) (hj : lv[j]? = some (i, .long x)) (hq : pc + 2 = q) (kk : zG p l e R s m args below meth c D cy A nL cells slots Q Z S (q) lv (.long x :: st)) : zG p l e R s m args below meth c D cy A nL cells slots Q Z S (pc) lv (st) := by
  subst hq
  exact fun H locs ls hP hD hS hl => lv_lload C0.1.1 C0.1.2.1 hdg (lv_at hl j hj) (kk H locs ls hP hD hS hl)
theorem zg_aload_n (C0 : zC p s m args meth c cc nL Ts own D cy A rt) {k : Fin 4} {x : Nat} (j : Nat) (hdg : decode cc pc = .ok (.aload_n k, 1)) (hj : lv[j]? = some (k.val, .ref x)) (hq : pc + 1 = q) (kk : zG p l e R s m args below meth c D cy A nL cells slots Q Z S (q) lv (.ref x :: st)) : zG p l e R s m args below meth c D cy A nL cells slots Q Z S (pc) lv (st) := by
  subst hq
  exact fun H locs ls hP hD hS hl => lv_aload_n C0.1.1 C0.1.2.1 hdg rfl (lv_at hl j hj) (kk H locs ls hP hD hS hl)
theorem zg_aload (C0 : zC p s m args meth c cc nL Ts own D cy A rt) {i : Nat} {x : Nat} (j : Nat) (hdg : decode cc pc = .ok (.aload i, 2)) (hj : lv[j]? = some (i, .ref x)) (hq : pc + 2 = q) (kk : zG p l e R s m args below meth c D cy A nL cells slots Q Z S (q) lv (.ref x :: st)) : zG p l e R s m args below meth c D cy A nL cells slots Q Z S (pc) lv (st) := by
  subst hq
  exact fun H locs ls hP hD hS hl => lv_aload C0.1.1 C0.1.2.1 hdg (lv_at hl j hj) (kk H locs ls hP hD hS hl)
theorem zg_aloadq_n (C0 : zC p s m args meth c cc nL Ts own D cy A rt) {k : Fin 4} {r : Option Nat} (j : Nat) (hdg : decode cc pc = .ok (.aload_n k, 1)) (hj : lv[j]? = some (k.val, va_rf r)) (hq : pc + 1 = q) (kk : zG p l e R s m args below meth c D cy A nL cells slots Q Z S (q) lv (va_rf r :: st)) : zG p l e R s m args below meth c D cy A nL cells slots Q Z S (pc) lv (st) := by
  subst hq
  intro H locs ls hP hD hS hl
  cases r with
  | none => exact lv_aload_nN C0.1.1 C0.1.2.1 hdg rfl (lv_at hl j hj) (kk H locs ls hP hD hS hl)
  | some b => exact lv_aload_n C0.1.1 C0.1.2.1 hdg rfl (lv_at hl j hj) (kk H locs ls hP hD hS hl)
theorem zg_aloadq (C0 : zC p s m args meth c cc nL Ts own D cy A rt) {i : Nat} {r : Option Nat} (j : Nat) (hdg : decode cc pc = .ok (.aload i, 2)) (hj : lv[j]? = some (i, va_rf r)) (hq : pc + 2 = q) (kk : zG p l e R s m args below meth c D cy A nL cells slots Q Z S (q) lv (va_rf r :: st)) : zG p l e R s m args below meth c D cy A nL cells slots Q Z S (pc) lv (st) := by
  subst hq
  intro H locs ls hP hD hS hl
  cases r with
  | none => exact lv_aloadN C0.1.1 C0.1.2.1 hdg (lv_at hl j hj) (kk H locs ls hP hD hS hl)
  | some b => exact lv_aload C0.1.1 C0.1.2.1 hdg (lv_at hl j hj) (kk H locs ls hP hD hS hl)
theorem zg_istore_n (C0 : zC p s m args meth c cc nL Ts own D cy A rt) {k : Fin 4} {x : Int32} (hdg : decode cc pc = .ok (.istore_n k, 1)) (hn : k.val < nL) (hv : (k.val, Value.int x) :: lv.filter (fun q => !(q.1 == k.val) && !(q.1 + 1 == k.val && q.2.category == 2)) = lv') (hq : pc + 1 = q) (kk : zG p l e R s m args below meth c D cy A nL cells slots Q Z S (q) lv' (st)) : zG p l e R s m args below meth c D cy A nL cells slots Q Z S (pc) lv (Value.int x :: st) := by
  subst hq
  exact fun H locs ls hP hD hS hl => lv_istore_n C0.1.1 C0.1.2.1 hdg rfl hl hn hv (fun ls' hl' => kk H locs ls' hP hD hS hl')
theorem zg_istore (C0 : zC p s m args meth c cc nL Ts own D cy A rt) {i : Nat} {x : Int32} (hdg : decode cc pc = .ok (.istore i, 2)) (hn : i < nL) (hv : (i, Value.int x) :: lv.filter (fun q => !(q.1 == i) && !(q.1 + 1 == i && q.2.category == 2)) = lv') (hq : pc + 2 = q) (kk : zG p l e R s m args below meth c D cy A nL cells slots Q Z S (q) lv' (st)) : zG p l e R s m args below meth c D cy A nL cells slots Q Z S (pc) lv (Value.int x :: st) := by
  subst hq
  exact fun H locs ls hP hD hS hl => lv_istore C0.1.1 C0.1.2.1 hdg hl hn hv (fun ls' hl' => kk H locs ls' hP hD hS hl')
theorem zg_lstore_n (C0 : zC p s m args meth c cc nL Ts own D cy A rt) {k : Fin 4} {x : Int64} (hdg : decode cc pc = .ok (.lstore_n k, 1)) (hn : k.val + 1 < nL) (hv : (k.val, Value.long x) :: lv.filter (fun q => !(q.1 == k.val) && (!(q.1 == k.val + 1) && !(q.1 + 1 == k.val && q.2.category == 2))) = lv') (hq : pc + 1 = q) (kk : zG p l e R s m args below meth c D cy A nL cells slots Q Z S (q) lv' (st)) : zG p l e R s m args below meth c D cy A nL cells slots Q Z S (pc) lv (Value.long x :: st) := by
  subst hq
  exact fun H locs ls hP hD hS hl => lv_lstore_n C0.1.1 C0.1.2.1 hdg rfl hl hn hv (fun ls' hl' => kk H locs ls' hP hD hS hl')
theorem zg_lstore (C0 : zC p s m args meth c cc nL Ts own D cy A rt) {i : Nat} {x : Int64} (hdg : decode cc pc = .ok (.lstore i, 2)) (hn : i + 1 < nL) (hv : (i, Value.long x) :: lv.filter (fun q => !(q.1 == i) && (!(q.1 == i + 1) && !(q.1 + 1 == i && q.2.category == 2))) = lv') (hq : pc + 2 = q) (kk : zG p l e R s m args below meth c D cy A nL cells slots Q Z S (q) lv' (st)) : zG p l e R s m args below meth c D cy A nL cells slots Q Z S (pc) lv (Value.long x :: st) := by
  subst hq
  exact fun H locs ls hP hD hS hl => lv_lstore C0.1.1 C0.1.2.1 hdg hl hn hv (fun ls' hl' => kk H locs ls' hP hD hS hl')
theorem zg_astore_n (C0 : zC p s m args meth c cc nL Ts own D cy A rt) {k : Fin 4} {x : Nat} (hdg : decode cc pc = .ok (.astore_n k, 1)) (hn : k.val < nL) (hv : (k.val, Value.ref x) :: lv.filter (fun q => !(q.1 == k.val) && !(q.1 + 1 == k.val && q.2.category == 2)) = lv') (hq : pc + 1 = q) (kk : zG p l e R s m args below meth c D cy A nL cells slots Q Z S (q) lv' (st)) : zG p l e R s m args below meth c D cy A nL cells slots Q Z S (pc) lv (Value.ref x :: st) := by
  subst hq
  exact fun H locs ls hP hD hS hl => lv_astore_n C0.1.1 C0.1.2.1 hdg rfl hl hn hv (fun ls' hl' => kk H locs ls' hP hD hS hl')
theorem zg_astore (C0 : zC p s m args meth c cc nL Ts own D cy A rt) {i : Nat} {x : Nat} (hdg : decode cc pc = .ok (.astore i, 2)) (hn : i < nL) (hv : (i, Value.ref x) :: lv.filter (fun q => !(q.1 == i) && !(q.1 + 1 == i && q.2.category == 2)) = lv') (hq : pc + 2 = q) (kk : zG p l e R s m args below meth c D cy A nL cells slots Q Z S (q) lv' (st)) : zG p l e R s m args below meth c D cy A nL cells slots Q Z S (pc) lv (Value.ref x :: st) := by
  subst hq
  exact fun H locs ls hP hD hS hl => lv_astore C0.1.1 C0.1.2.1 hdg hl hn hv (fun ls' hl' => kk H locs ls' hP hD hS hl')
theorem zg_astoreq_n (C0 : zC p s m args meth c cc nL Ts own D cy A rt) {k : Fin 4} {r : Option Nat} (hdg : decode cc pc = .ok (.astore_n k, 1)) (hn : k.val < nL) (hv : (k.val, va_rf r) :: lv.filter (fun q => !(q.1 == k.val) && !(q.1 + 1 == k.val && q.2.category == 2)) = lv') (hq : pc + 1 = q) (kk : zG p l e R s m args below meth c D cy A nL cells slots Q Z S (q) lv' (st)) : zG p l e R s m args below meth c D cy A nL cells slots Q Z S (pc) lv (va_rf r :: st) := by
  subst hq
  intro H locs ls hP hD hS hl
  cases r with
  | none => exact lv_astore_nN C0.1.1 C0.1.2.1 hdg rfl hl hn hv (fun ls' hl' => kk H locs ls' hP hD hS hl')
  | some b => exact lv_astore_n C0.1.1 C0.1.2.1 hdg rfl hl hn hv (fun ls' hl' => kk H locs ls' hP hD hS hl')
theorem zg_astoreq (C0 : zC p s m args meth c cc nL Ts own D cy A rt) {i : Nat} {r : Option Nat} (hdg : decode cc pc = .ok (.astore i, 2)) (hn : i < nL) (hv : (i, va_rf r) :: lv.filter (fun q => !(q.1 == i) && !(q.1 + 1 == i && q.2.category == 2)) = lv') (hq : pc + 2 = q) (kk : zG p l e R s m args below meth c D cy A nL cells slots Q Z S (q) lv' (st)) : zG p l e R s m args below meth c D cy A nL cells slots Q Z S (pc) lv (va_rf r :: st) := by
  subst hq
  intro H locs ls hP hD hS hl
  cases r with
  | none => exact lv_astoreN C0.1.1 C0.1.2.1 hdg hl hn hv (fun ls' hl' => kk H locs ls' hP hD hS hl')
  | some b => exact lv_astore C0.1.1 C0.1.2.1 hdg hl hn hv (fun ls' hl' => kk H locs ls' hP hD hS hl')
theorem zg_iinc (C0 : zC p s m args meth c cc nL Ts own D cy A rt) {i : Nat} {n : Int} {x : Int32} (j : Nat) (hdg : decode cc pc = .ok (.iinc i n, 3)) (hj : lv[j]? = some (i, .int x)) (hn : i < nL) {d : Int32} (hd : Int32.ofInt n = d) (hq : pc + 3 = q) (kk : ∀ v : Int32, v = x + d → zG p l e R s m args below meth c D cy A nL cells slots Q Z S (q) ((i, .int v) :: lv.filter (fun q => !(q.1 == i) && !(q.1 + 1 == i && q.2.category == 2))) (st)) : zG p l e R s m args below meth c D cy A nL cells slots Q Z S (pc) lv (st) := by
  subst hq
  subst hd
  exact fun H locs ls hP hD hS hl => lv_iinc C0.1.1 C0.1.2.1 hdg hl hj rfl hn rfl (fun ls' hl' => kk _ rfl H locs ls' hP hD hS hl')
theorem zg_iadd (C0 : zC p s m args meth c cc nL Ts own D cy A rt) {x y : Int32} (hdg : decode cc pc = .ok (.iadd, 1)) (hq : pc + 1 = q) (kk : zG p l e R s m args below meth c D cy A nL cells slots Q Z S (q) lv (.int (x + y) :: st)) : zG p l e R s m args below meth c D cy A nL cells slots Q Z S (pc) lv (.int y :: .int x :: st) := by
  subst hq
  exact fun H locs ls hP hD hS hl => lv_iadd C0.1.1 C0.1.2.1 hdg (kk H locs ls hP hD hS hl)
theorem zg_isub (C0 : zC p s m args meth c cc nL Ts own D cy A rt) {x y : Int32} (hdg : decode cc pc = .ok (.isub, 1)) (hq : pc + 1 = q) (kk : zG p l e R s m args below meth c D cy A nL cells slots Q Z S (q) lv (.int (x - y) :: st)) : zG p l e R s m args below meth c D cy A nL cells slots Q Z S (pc) lv (.int y :: .int x :: st) := by
  subst hq
  exact fun H locs ls hP hD hS hl => lv_isub C0.1.1 C0.1.2.1 hdg (kk H locs ls hP hD hS hl)
theorem zg_imul (C0 : zC p s m args meth c cc nL Ts own D cy A rt) {x y : Int32} (hdg : decode cc pc = .ok (.imul, 1)) (hq : pc + 1 = q) (kk : zG p l e R s m args below meth c D cy A nL cells slots Q Z S (q) lv (.int (x * y) :: st)) : zG p l e R s m args below meth c D cy A nL cells slots Q Z S (pc) lv (.int y :: .int x :: st) := by
  subst hq
  exact fun H locs ls hP hD hS hl => lv_imul C0.1.1 C0.1.2.1 hdg (kk H locs ls hP hD hS hl)
theorem zg_iand (C0 : zC p s m args meth c cc nL Ts own D cy A rt) {x y : Int32} (hdg : decode cc pc = .ok (.iand, 1)) (hq : pc + 1 = q) (kk : zG p l e R s m args below meth c D cy A nL cells slots Q Z S (q) lv (.int (x &&& y) :: st)) : zG p l e R s m args below meth c D cy A nL cells slots Q Z S (pc) lv (.int y :: .int x :: st) := by
  subst hq
  exact fun H locs ls hP hD hS hl => lv_iand C0.1.1 C0.1.2.1 hdg (kk H locs ls hP hD hS hl)
theorem zg_ior (C0 : zC p s m args meth c cc nL Ts own D cy A rt) {x y : Int32} (hdg : decode cc pc = .ok (.ior, 1)) (hq : pc + 1 = q) (kk : zG p l e R s m args below meth c D cy A nL cells slots Q Z S (q) lv (.int (x ||| y) :: st)) : zG p l e R s m args below meth c D cy A nL cells slots Q Z S (pc) lv (.int y :: .int x :: st) := by
  subst hq
  exact fun H locs ls hP hD hS hl => lv_ior C0.1.1 C0.1.2.1 hdg (kk H locs ls hP hD hS hl)
theorem zg_ixor (C0 : zC p s m args meth c cc nL Ts own D cy A rt) {x y : Int32} (hdg : decode cc pc = .ok (.ixor, 1)) (hq : pc + 1 = q) (kk : zG p l e R s m args below meth c D cy A nL cells slots Q Z S (q) lv (.int (x ^^^ y) :: st)) : zG p l e R s m args below meth c D cy A nL cells slots Q Z S (pc) lv (.int y :: .int x :: st) := by
  subst hq
  exact fun H locs ls hP hD hS hl => lv_ixor C0.1.1 C0.1.2.1 hdg (kk H locs ls hP hD hS hl)
theorem zg_ishl (C0 : zC p s m args meth c cc nL Ts own D cy A rt) {x y : Int32} (hdg : decode cc pc = .ok (.ishl, 1)) (hq : pc + 1 = q) (kk : zG p l e R s m args below meth c D cy A nL cells slots Q Z S (q) lv (.int (x <<< (y &&& 31)) :: st)) : zG p l e R s m args below meth c D cy A nL cells slots Q Z S (pc) lv (.int y :: .int x :: st) := by
  subst hq
  exact fun H locs ls hP hD hS hl => lv_ishl C0.1.1 C0.1.2.1 hdg (kk H locs ls hP hD hS hl)
theorem zg_ishr (C0 : zC p s m args meth c cc nL Ts own D cy A rt) {x y : Int32} (hdg : decode cc pc = .ok (.ishr, 1)) (hq : pc + 1 = q) (kk : zG p l e R s m args below meth c D cy A nL cells slots Q Z S (q) lv (.int (x >>> (y &&& 31)) :: st)) : zG p l e R s m args below meth c D cy A nL cells slots Q Z S (pc) lv (.int y :: .int x :: st) := by
  subst hq
  exact fun H locs ls hP hD hS hl => lv_ishr C0.1.1 C0.1.2.1 hdg (kk H locs ls hP hD hS hl)
theorem zg_iushr (C0 : zC p s m args meth c cc nL Ts own D cy A rt) {x y : Int32} (hdg : decode cc pc = .ok (.iushr, 1)) (hq : pc + 1 = q) (kk : zG p l e R s m args below meth c D cy A nL cells slots Q Z S (q) lv (.int ((x.toUInt32 >>> (y.toUInt32 &&& Int32.toUInt32 31)).toInt32) :: st)) : zG p l e R s m args below meth c D cy A nL cells slots Q Z S (pc) lv (.int y :: .int x :: st) := by
  subst hq
  exact fun H locs ls hP hD hS hl => lv_iushr C0.1.1 C0.1.2.1 hdg rfl (kk H locs ls hP hD hS hl)
theorem zg_irem (C0 : zC p s m args meth c cc nL Ts own D cy A rt) {x y : Int32} (hdg : decode cc pc = .ok (.irem, 1)) (hne : ¬ y = 0) (hq : pc + 1 = q) (kk : zG p l e R s m args below meth c D cy A nL cells slots Q Z S (q) lv (.int (x - x / y * y) :: st)) : zG p l e R s m args below meth c D cy A nL cells slots Q Z S (pc) lv (.int y :: .int x :: st) := by
  subst hq
  exact fun H locs ls hP hD hS hl => lv_irem C0.1.1 C0.1.2.1 hdg hne (kk H locs ls hP hD hS hl)
theorem zg_ladd (C0 : zC p s m args meth c cc nL Ts own D cy A rt) {x y : Int64} (hdg : decode cc pc = .ok (.ladd, 1)) (hq : pc + 1 = q) (kk : zG p l e R s m args below meth c D cy A nL cells slots Q Z S (q) lv (.long (x + y) :: st)) : zG p l e R s m args below meth c D cy A nL cells slots Q Z S (pc) lv (.long y :: .long x :: st) := by
  subst hq
  exact fun H locs ls hP hD hS hl => lv_ladd C0.1.1 C0.1.2.1 hdg (kk H locs ls hP hD hS hl)
theorem zg_lmul (C0 : zC p s m args meth c cc nL Ts own D cy A rt) {x y : Int64} (hdg : decode cc pc = .ok (.lmul, 1)) (hq : pc + 1 = q) (kk : zG p l e R s m args below meth c D cy A nL cells slots Q Z S (q) lv (.long (x * y) :: st)) : zG p l e R s m args below meth c D cy A nL cells slots Q Z S (pc) lv (.long y :: .long x :: st) := by
  subst hq
  exact fun H locs ls hP hD hS hl => lv_lmul C0.1.1 C0.1.2.1 hdg (kk H locs ls hP hD hS hl)
theorem zg_land (C0 : zC p s m args meth c cc nL Ts own D cy A rt) {x y : Int64} (hdg : decode cc pc = .ok (.land, 1)) (hq : pc + 1 = q) (kk : zG p l e R s m args below meth c D cy A nL cells slots Q Z S (q) lv (.long (x &&& y) :: st)) : zG p l e R s m args below meth c D cy A nL cells slots Q Z S (pc) lv (.long y :: .long x :: st) := by
  subst hq
  exact fun H locs ls hP hD hS hl => lv_land C0.1.1 C0.1.2.1 hdg (kk H locs ls hP hD hS hl)
theorem zg_lor (C0 : zC p s m args meth c cc nL Ts own D cy A rt) {x y : Int64} (hdg : decode cc pc = .ok (.lor, 1)) (hq : pc + 1 = q) (kk : zG p l e R s m args below meth c D cy A nL cells slots Q Z S (q) lv (.long (x ||| y) :: st)) : zG p l e R s m args below meth c D cy A nL cells slots Q Z S (pc) lv (.long y :: .long x :: st) := by
  subst hq
  exact fun H locs ls hP hD hS hl => lv_lor C0.1.1 C0.1.2.1 hdg (kk H locs ls hP hD hS hl)
theorem zg_lshl (C0 : zC p s m args meth c cc nL Ts own D cy A rt) {x : Int64} {y : Int32} (hdg : decode cc pc = .ok (.lshl, 1)) (hq : pc + 1 = q) (kk : zG p l e R s m args below meth c D cy A nL cells slots Q Z S (q) lv (.long (x <<< (y.toInt64 &&& 63)) :: st)) : zG p l e R s m args below meth c D cy A nL cells slots Q Z S (pc) lv (.int y :: .long x :: st) := by
  subst hq
  exact fun H locs ls hP hD hS hl => lv_lshl C0.1.1 C0.1.2.1 hdg rfl (kk H locs ls hP hD hS hl)
theorem zg_i2l (C0 : zC p s m args meth c cc nL Ts own D cy A rt) {x : Int32} (hdg : decode cc pc = .ok (.i2l, 1)) (hq : pc + 1 = q) (kk : zG p l e R s m args below meth c D cy A nL cells slots Q Z S (q) lv (.long x.toInt64 :: st)) : zG p l e R s m args below meth c D cy A nL cells slots Q Z S (pc) lv (.int x :: st) := by
  subst hq
  exact fun H locs ls hP hD hS hl => lv_i2l C0.1.1 C0.1.2.1 hdg rfl (kk H locs ls hP hD hS hl)
theorem zg_lcmp (C0 : zC p s m args meth c cc nL Ts own D cy A rt) {x y : Int64} (hdg : decode cc pc = .ok (.lcmp, 1)) (hq : pc + 1 = q) (kk : zG p l e R s m args below meth c D cy A nL cells slots Q Z S (q) lv (.int (lg_cmp x y) :: st)) : zG p l e R s m args below meth c D cy A nL cells slots Q Z S (pc) lv (.long y :: .long x :: st) := by
  subst hq
  exact fun H locs ls hP hD hS hl => W.lcmp C0.1.1 C0.1.2.1 hdg (kk H locs ls hP hD hS hl)
theorem zg_dup (C0 : zC p s m args meth c cc nL Ts own D cy A rt) {v : Value} (hdg : decode cc pc = .ok (.dup, 1)) (h1 : v.category = 1) (hq : pc + 1 = q) (kk : zG p l e R s m args below meth c D cy A nL cells slots Q Z S (q) lv (v :: v :: st)) : zG p l e R s m args below meth c D cy A nL cells slots Q Z S (pc) lv (v :: st) := by
  subst hq
  exact fun H locs ls hP hD hS hl => lv_dup C0.1.1 C0.1.2.1 hdg h1 (kk H locs ls hP hD hS hl)
theorem zg_pop (C0 : zC p s m args meth c cc nL Ts own D cy A rt) {v : Value} (hdg : decode cc pc = .ok (.pop, 1)) (h1 : v.category = 1) (hq : pc + 1 = q) (kk : zG p l e R s m args below meth c D cy A nL cells slots Q Z S (q) lv (st)) : zG p l e R s m args below meth c D cy A nL cells slots Q Z S (pc) lv (v :: st) := by
  subst hq
  exact fun H locs ls hP hD hS hl => lv_pop C0.1.1 C0.1.2.1 hdg h1 (kk H locs ls hP hD hS hl)
theorem zg_dup2 (C0 : zC p s m args meth c cc nL Ts own D cy A rt) {v u : Value} (hdg : decode cc pc = .ok (.dup2, 1)) (h1 : v.category = 1) (h2 : u.category = 1) (hq : pc + 1 = q) (kk : zG p l e R s m args below meth c D cy A nL cells slots Q Z S (q) lv (v :: u :: v :: u :: st)) : zG p l e R s m args below meth c D cy A nL cells slots Q Z S (pc) lv (v :: u :: st) := by
  subst hq
  exact fun H locs ls hP hD hS hl => lv_dup2_11 C0.1.1 C0.1.2.1 hdg h1 h2 (kk H locs ls hP hD hS hl)
theorem zg_dup2l (C0 : zC p s m args meth c cc nL Ts own D cy A rt) {v : Value} (hdg : decode cc pc = .ok (.dup2, 1)) (h1 : v.category = 2) (hq : pc + 1 = q) (kk : zG p l e R s m args below meth c D cy A nL cells slots Q Z S (q) lv (v :: v :: st)) : zG p l e R s m args below meth c D cy A nL cells slots Q Z S (pc) lv (v :: st) := by
  subst hq
  exact fun H locs ls hP hD hS hl => lv_dup2_2 C0.1.1 C0.1.2.1 hdg h1 (kk H locs ls hP hD hS hl)
theorem zg_null (C0 : zC p s m args meth c cc nL Ts own D cy A rt)  (hdg : decode cc pc = .ok (.aconst_null, 1)) (hq : pc + 1 = q) (kk : zG p l e R s m args below meth c D cy A nL cells slots Q Z S (q) lv (.null :: st)) : zG p l e R s m args below meth c D cy A nL cells slots Q Z S (pc) lv (st) := by
  subst hq
  exact fun H locs ls hP hD hS hl => lv_null C0.1.1 C0.1.2.1 hdg (kk H locs ls hP hD hS hl)
theorem zg_ldcw (C0 : zC p s m args meth c cc nL Ts own D cy A rt) {index : Nat} {v : Int32} (hdg : decode cc pc = .ok (.ldc_w index, 3)) (hw : Cond.constant own index v ∈ Ts) (hq : pc + 3 = q) (kk : zG p l e R s m args below meth c D cy A nL cells slots Q Z S (q) lv (.int v :: st)) : zG p l e R s m args below meth c D cy A nL cells slots Q Z S (pc) lv (st) := by
  subst hq
  exact fun H locs ls hP hD hS hl => lv_ldcw C0.1.1 C0.1.2.1 C0.1.2.2.2.1 (C0.1.2.2.2.2 _ hw) hdg (kk H locs ls hP hD hS hl)
theorem zg_ldc2 (C0 : zC p s m args meth c cc nL Ts own D cy A rt) {index : Nat} {v : Int64} (hdg : decode cc pc = .ok (.ldc2_w index, 3)) (hw : Cond.constantLong own index v ∈ Ts) (hq : pc + 3 = q) (kk : zG p l e R s m args below meth c D cy A nL cells slots Q Z S (q) lv (.long v :: st)) : zG p l e R s m args below meth c D cy A nL cells slots Q Z S (pc) lv (st) := by
  subst hq
  exact fun H locs ls hP hD hS hl => lv_ldc2 C0.1.1 C0.1.2.1 C0.1.2.2.2.1 (C0.1.2.2.2.2 _ hw) hdg (kk H locs ls hP hD hS hl)
theorem zg_if_eq (C0 : zC p s m args meth c cc nL Ts own D cy A rt) {x : Int32} {off : Int} {tgt : Nat} (hdg : decode cc pc = .ok (.ifCond .eq off, 3)) (ht : (pc : Int) + off = (tgt : Int)) (hq : pc + 3 = q) (kt : x = 0 → zG p l e R s m args below meth c D cy A nL cells slots Q Z S (tgt) lv (st)) (kf : ¬ x = 0 → zG p l e R s m args below meth c D cy A nL cells slots Q Z S (q) lv (st)) : zG p l e R s m args below meth c D cy A nL cells slots Q Z S (pc) lv (.int x :: st) := by
  subst hq
  exact fun H locs ls hP hD hS hl => lv_if_eq C0.1.1 C0.1.2.1 hdg ht (fun z => kt z H locs ls hP hD hS hl) (fun z => kf z H locs ls hP hD hS hl)
theorem zg_if_ne (C0 : zC p s m args meth c cc nL Ts own D cy A rt) {x : Int32} {off : Int} {tgt : Nat} (hdg : decode cc pc = .ok (.ifCond .ne off, 3)) (ht : (pc : Int) + off = (tgt : Int)) (hq : pc + 3 = q) (kt : ¬ x = 0 → zG p l e R s m args below meth c D cy A nL cells slots Q Z S (tgt) lv (st)) (kf : x = 0 → zG p l e R s m args below meth c D cy A nL cells slots Q Z S (q) lv (st)) : zG p l e R s m args below meth c D cy A nL cells slots Q Z S (pc) lv (.int x :: st) := by
  subst hq
  exact fun H locs ls hP hD hS hl => lv_if_ne C0.1.1 C0.1.2.1 hdg ht (fun z => kt z H locs ls hP hD hS hl) (fun z => kf z H locs ls hP hD hS hl)
theorem zg_if_lt (C0 : zC p s m args meth c cc nL Ts own D cy A rt) {x : Int32} {off : Int} {tgt : Nat} (hdg : decode cc pc = .ok (.ifCond .lt off, 3)) (ht : (pc : Int) + off = (tgt : Int)) (hq : pc + 3 = q) (kt : x < 0 → zG p l e R s m args below meth c D cy A nL cells slots Q Z S (tgt) lv (st)) (kf : ¬ x < 0 → zG p l e R s m args below meth c D cy A nL cells slots Q Z S (q) lv (st)) : zG p l e R s m args below meth c D cy A nL cells slots Q Z S (pc) lv (.int x :: st) := by
  subst hq
  exact fun H locs ls hP hD hS hl => lv_if_lt C0.1.1 C0.1.2.1 hdg ht (fun z => kt z H locs ls hP hD hS hl) (fun z => kf z H locs ls hP hD hS hl)
theorem zg_if_ge (C0 : zC p s m args meth c cc nL Ts own D cy A rt) {x : Int32} {off : Int} {tgt : Nat} (hdg : decode cc pc = .ok (.ifCond .ge off, 3)) (ht : (pc : Int) + off = (tgt : Int)) (hq : pc + 3 = q) (kt : 0 ≤ x → zG p l e R s m args below meth c D cy A nL cells slots Q Z S (tgt) lv (st)) (kf : ¬ 0 ≤ x → zG p l e R s m args below meth c D cy A nL cells slots Q Z S (q) lv (st)) : zG p l e R s m args below meth c D cy A nL cells slots Q Z S (pc) lv (.int x :: st) := by
  subst hq
  exact fun H locs ls hP hD hS hl => lv_if_ge C0.1.1 C0.1.2.1 hdg ht (fun z => kt z H locs ls hP hD hS hl) (fun z => kf z H locs ls hP hD hS hl)
theorem zg_if_gt (C0 : zC p s m args meth c cc nL Ts own D cy A rt) {x : Int32} {off : Int} {tgt : Nat} (hdg : decode cc pc = .ok (.ifCond .gt off, 3)) (ht : (pc : Int) + off = (tgt : Int)) (hq : pc + 3 = q) (kt : 0 < x → zG p l e R s m args below meth c D cy A nL cells slots Q Z S (tgt) lv (st)) (kf : ¬ 0 < x → zG p l e R s m args below meth c D cy A nL cells slots Q Z S (q) lv (st)) : zG p l e R s m args below meth c D cy A nL cells slots Q Z S (pc) lv (.int x :: st) := by
  subst hq
  exact fun H locs ls hP hD hS hl => lv_if_gt C0.1.1 C0.1.2.1 hdg ht (fun z => kt z H locs ls hP hD hS hl) (fun z => kf z H locs ls hP hD hS hl)
theorem zg_if_le (C0 : zC p s m args meth c cc nL Ts own D cy A rt) {x : Int32} {off : Int} {tgt : Nat} (hdg : decode cc pc = .ok (.ifCond .le off, 3)) (ht : (pc : Int) + off = (tgt : Int)) (hq : pc + 3 = q) (kt : x ≤ 0 → zG p l e R s m args below meth c D cy A nL cells slots Q Z S (tgt) lv (st)) (kf : ¬ x ≤ 0 → zG p l e R s m args below meth c D cy A nL cells slots Q Z S (q) lv (st)) : zG p l e R s m args below meth c D cy A nL cells slots Q Z S (pc) lv (.int x :: st) := by
  subst hq
  exact fun H locs ls hP hD hS hl => lv_if_le C0.1.1 C0.1.2.1 hdg ht (fun z => kt z H locs ls hP hD hS hl) (fun z => kf z H locs ls hP hD hS hl)
theorem zg_icmp_eq (C0 : zC p s m args meth c cc nL Ts own D cy A rt) {x y : Int32} {off : Int} {tgt : Nat} (hdg : decode cc pc = .ok (.if_icmp .eq off, 3)) (ht : (pc : Int) + off = (tgt : Int)) (hq : pc + 3 = q) (kt : x = y → zG p l e R s m args below meth c D cy A nL cells slots Q Z S (tgt) lv (st)) (kf : ¬ x = y → zG p l e R s m args below meth c D cy A nL cells slots Q Z S (q) lv (st)) : zG p l e R s m args below meth c D cy A nL cells slots Q Z S (pc) lv (.int y :: .int x :: st) := by
  subst hq
  exact fun H locs ls hP hD hS hl => lv_icmp_eq C0.1.1 C0.1.2.1 hdg ht (fun z => kt z H locs ls hP hD hS hl) (fun z => kf z H locs ls hP hD hS hl)
theorem zg_icmp_ne (C0 : zC p s m args meth c cc nL Ts own D cy A rt) {x y : Int32} {off : Int} {tgt : Nat} (hdg : decode cc pc = .ok (.if_icmp .ne off, 3)) (ht : (pc : Int) + off = (tgt : Int)) (hq : pc + 3 = q) (kt : ¬ x = y → zG p l e R s m args below meth c D cy A nL cells slots Q Z S (tgt) lv (st)) (kf : x = y → zG p l e R s m args below meth c D cy A nL cells slots Q Z S (q) lv (st)) : zG p l e R s m args below meth c D cy A nL cells slots Q Z S (pc) lv (.int y :: .int x :: st) := by
  subst hq
  exact fun H locs ls hP hD hS hl => lv_icmp_ne C0.1.1 C0.1.2.1 hdg ht (fun z => kt z H locs ls hP hD hS hl) (fun z => kf z H locs ls hP hD hS hl)
theorem zg_icmp_lt (C0 : zC p s m args meth c cc nL Ts own D cy A rt) {x y : Int32} {off : Int} {tgt : Nat} (hdg : decode cc pc = .ok (.if_icmp .lt off, 3)) (ht : (pc : Int) + off = (tgt : Int)) (hq : pc + 3 = q) (kt : x < y → zG p l e R s m args below meth c D cy A nL cells slots Q Z S (tgt) lv (st)) (kf : ¬ x < y → zG p l e R s m args below meth c D cy A nL cells slots Q Z S (q) lv (st)) : zG p l e R s m args below meth c D cy A nL cells slots Q Z S (pc) lv (.int y :: .int x :: st) := by
  subst hq
  exact fun H locs ls hP hD hS hl => lv_icmp_lt C0.1.1 C0.1.2.1 hdg ht (fun z => kt z H locs ls hP hD hS hl) (fun z => kf z H locs ls hP hD hS hl)
theorem zg_icmp_ge (C0 : zC p s m args meth c cc nL Ts own D cy A rt) {x y : Int32} {off : Int} {tgt : Nat} (hdg : decode cc pc = .ok (.if_icmp .ge off, 3)) (ht : (pc : Int) + off = (tgt : Int)) (hq : pc + 3 = q) (kt : y ≤ x → zG p l e R s m args below meth c D cy A nL cells slots Q Z S (tgt) lv (st)) (kf : ¬ y ≤ x → zG p l e R s m args below meth c D cy A nL cells slots Q Z S (q) lv (st)) : zG p l e R s m args below meth c D cy A nL cells slots Q Z S (pc) lv (.int y :: .int x :: st) := by
  subst hq
  exact fun H locs ls hP hD hS hl => lv_icmp_ge C0.1.1 C0.1.2.1 hdg ht (fun z => kt z H locs ls hP hD hS hl) (fun z => kf z H locs ls hP hD hS hl)
theorem zg_icmp_gt (C0 : zC p s m args meth c cc nL Ts own D cy A rt) {x y : Int32} {off : Int} {tgt : Nat} (hdg : decode cc pc = .ok (.if_icmp .gt off, 3)) (ht : (pc : Int) + off = (tgt : Int)) (hq : pc + 3 = q) (kt : y < x → zG p l e R s m args below meth c D cy A nL cells slots Q Z S (tgt) lv (st)) (kf : ¬ y < x → zG p l e R s m args below meth c D cy A nL cells slots Q Z S (q) lv (st)) : zG p l e R s m args below meth c D cy A nL cells slots Q Z S (pc) lv (.int y :: .int x :: st) := by
  subst hq
  exact fun H locs ls hP hD hS hl => lv_icmp_gt C0.1.1 C0.1.2.1 hdg ht (fun z => kt z H locs ls hP hD hS hl) (fun z => kf z H locs ls hP hD hS hl)
theorem zg_icmp_le (C0 : zC p s m args meth c cc nL Ts own D cy A rt) {x y : Int32} {off : Int} {tgt : Nat} (hdg : decode cc pc = .ok (.if_icmp .le off, 3)) (ht : (pc : Int) + off = (tgt : Int)) (hq : pc + 3 = q) (kt : x ≤ y → zG p l e R s m args below meth c D cy A nL cells slots Q Z S (tgt) lv (st)) (kf : ¬ x ≤ y → zG p l e R s m args below meth c D cy A nL cells slots Q Z S (q) lv (st)) : zG p l e R s m args below meth c D cy A nL cells slots Q Z S (pc) lv (.int y :: .int x :: st) := by
  subst hq
  exact fun H locs ls hP hD hS hl => lv_icmp_le C0.1.1 C0.1.2.1 hdg ht (fun z => kt z H locs ls hP hD hS hl) (fun z => kf z H locs ls hP hD hS hl)
theorem zg_acmp_eq (C0 : zC p s m args meth c cc nL Ts own D cy A rt) {a b : Option Nat} {v u : Value} {off : Int} {tgt : Nat} (hdg : decode cc pc = .ok (.if_acmp .eq off, 3)) (ht : (pc : Int) + off = (tgt : Int)) (hu : va_rf a = u) (hv : va_rf b = v) (hq : pc + 3 = q) (kt : a = b → zG p l e R s m args below meth c D cy A nL cells slots Q Z S (tgt) lv (st)) (kf : ¬ a = b → zG p l e R s m args below meth c D cy A nL cells slots Q Z S (q) lv (st)) : zG p l e R s m args below meth c D cy A nL cells slots Q Z S (pc) lv (v :: u :: st) := by
  subst hq
  subst hu
  subst hv
  exact fun H locs ls hP hD hS hl => lv_acmp_eq C0.1.1 C0.1.2.1 hdg ht (fun z => kt z H locs ls hP hD hS hl) (fun z => kf z H locs ls hP hD hS hl)
theorem zg_acmp_ne (C0 : zC p s m args meth c cc nL Ts own D cy A rt) {a b : Option Nat} {v u : Value} {off : Int} {tgt : Nat} (hdg : decode cc pc = .ok (.if_acmp .ne off, 3)) (ht : (pc : Int) + off = (tgt : Int)) (hu : va_rf a = u) (hv : va_rf b = v) (hq : pc + 3 = q) (kt : ¬ a = b → zG p l e R s m args below meth c D cy A nL cells slots Q Z S (tgt) lv (st)) (kf : a = b → zG p l e R s m args below meth c D cy A nL cells slots Q Z S (q) lv (st)) : zG p l e R s m args below meth c D cy A nL cells slots Q Z S (pc) lv (v :: u :: st) := by
  subst hq
  subst hu
  subst hv
  exact fun H locs ls hP hD hS hl => lv_acmp_ne C0.1.1 C0.1.2.1 hdg ht (fun z => kt z H locs ls hP hD hS hl) (fun z => kf z H locs ls hP hD hS hl)
theorem zg_goto (C0 : zC p s m args meth c cc nL Ts own D cy A rt) {off : Int} {tgt : Nat} (hdg : decode cc pc = .ok (.goto off, 3)) (ht : (pc : Int) + off = (tgt : Int)) (kk : zG p l e R s m args below meth c D cy A nL cells slots Q Z S (tgt) lv (st)) : zG p l e R s m args below meth c D cy A nL cells slots Q Z S (pc) lv (st) := fun H locs ls hP hD hS hl => lv_goto C0.1.1 C0.1.2.1 hdg ht (kk H locs ls hP hD hS hl)
theorem zg_ifnull (C0 : zC p s m args meth c cc nL Ts own D cy A rt) {r : Option Nat} {off : Int} {tgt : Nat} (hdg : decode cc pc = .ok (.ifnull off, 3)) (ht : (pc : Int) + off = (tgt : Int)) (hq : pc + 3 = q) (kt : r = none → zG p l e R s m args below meth c D cy A nL cells slots Q Z S (tgt) lv (st)) (kf : ∀ b, r = some b → zG p l e R s m args below meth c D cy A nL cells slots Q Z S (q) lv (st)) : zG p l e R s m args below meth c D cy A nL cells slots Q Z S (pc) lv (va_rf r :: st) := by
  subst hq
  intro H locs ls hP hD hS hl
  cases r with
  | none => exact lv_ifnullN C0.1.1 C0.1.2.1 hdg ht (kt rfl H locs ls hP hD hS hl)
  | some b => exact lv_ifnull C0.1.1 C0.1.2.1 hdg (kf b rfl H locs ls hP hD hS hl)
theorem zg_ifnonnull (C0 : zC p s m args meth c cc nL Ts own D cy A rt) {r : Option Nat} {off : Int} {tgt : Nat} (hdg : decode cc pc = .ok (.ifnonnull off, 3)) (ht : (pc : Int) + off = (tgt : Int)) (hq : pc + 3 = q) (kt : ∀ b, r = some b → zG p l e R s m args below meth c D cy A nL cells slots Q Z S (tgt) lv (st)) (kf : r = none → zG p l e R s m args below meth c D cy A nL cells slots Q Z S (q) lv (st)) : zG p l e R s m args below meth c D cy A nL cells slots Q Z S (pc) lv (va_rf r :: st) := by
  subst hq
  intro H locs ls hP hD hS hl
  cases r with
  | none => exact lv_ifnonnullN C0.1.1 C0.1.2.1 hdg (kf rfl H locs ls hP hD hS hl)
  | some b => exact lv_ifnonnull C0.1.1 C0.1.2.1 hdg ht (kt b rfl H locs ls hP hD hS hl)
theorem zg_ni {x : Int32} (kk : ∀ y : Int32, y = x → zG p l e R s m args below meth c D cy A nL cells slots Q Z S (pc) lv (.int y :: st)) : zG p l e R s m args below meth c D cy A nL cells slots Q Z S (pc) lv (.int x :: st) := kk x rfl
theorem zg_nl {x : Int64} (kk : ∀ y : Int64, y = x → zG p l e R s m args below meth c D cy A nL cells slots Q Z S (pc) lv (.long y :: st)) : zG p l e R s m args below meth c D cy A nL cells slots Q Z S (pc) lv (.long x :: st) := kk x rfl
theorem zg_st {st' : List Value} (h : st = st') (kk : zG p l e R s m args below meth c D cy A nL cells slots Q Z S (pc) lv (st')) : zG p l e R s m args below meth c D cy A nL cells slots Q Z S (pc) lv (st) := h ▸ kk
theorem zg_lv (h : lv = lv') (kk : zG p l e R s m args below meth c D cy A nL cells slots Q Z S (pc) lv' (st)) : zG p l e R s m args below meth c D cy A nL cells slots Q Z S (pc) lv (st) := h ▸ kk
theorem zg_sub (ks : List Nat) (h : lv_pick lv ks = lv') (kk : zG p l e R s m args below meth c D cy A nL cells slots Q Z S (pc) lv' (st)) : zG p l e R s m args below meth c D cy A nL cells slots Q Z S (pc) lv (st) := fun H locs ls hP hD hS hl => kk H locs ls hP hD hS (lv_sub hl ks h)
theorem zg_widen {k n : Nat} (h1 : cells ≤ k) (h2 : slots ≤ n) (kk : zG p l e R s m args below meth c D cy A nL k n Q Z S (pc) lv (st)) : zG p l e R s m args below meth c D cy A nL cells slots Q Z S (pc) lv (st) := fun H locs ls hP hD hS hl => W.widen h1 h2 (kk H locs ls hP hD hS hl)
theorem zg_get (C0 : zC p s m args meth c cc nL Ts own D cy A rt) {a ci N k index : Nat} {Cn ref : String} {T : u_T} {fs : List Value} {v : Value} (hdg : decode cc pc = .ok (.getfield index, 3)) (ha : zk Z a ci) (hF : zF cy Z S a = .inr (ci, fs)) (hc : vwCl[ci]? = some (Cn, T, N)) (hk : k < N) (hin : ∀ w ∈ u_ws Cn T N, w ∈ Ts) (hlink : Cond.fieldLink own index ref (T k).2.1 (T k).2.2.1 ∈ Ts) (href : (T k).1 = ref) (hv : fs[k]? = some v) (hq : pc + 3 = q) (kk : zG p l e R s m args below meth c D cy A nL cells slots Q Z S (q) lv (v :: st)) : zG p l e R s m args below meth c D cy A nL cells slots Q Z S (pc) lv (.ref a :: st) := by
  subst hq
  subst href
  intro H locs ls hP hD hS hl
  obtain ⟨j, hj⟩ := zget ha.1 hF
  exact va_get (D := D) (cl := vwCl) C0.1.1 C0.1.2.1 C0.1.2.2.2.2 hin C0.1.2.2.2.1 C0.2.1.1 hP j hj hc k hk (C0.1.2.2.2.2 _ hlink) (fun _ h => h) hv hdg (kk H locs ls hP hD hS hl)
theorem zg_put (C0 : zC p s m args meth c cc nL Ts own D cy A rt) {Z' : zZ} {S' : zS} {a ci N k index : Nat} {Cn ref : String} {T : u_T} {fs : List Value} {v : Value} {ty0 : Nat → FieldType} (hdg : decode cc pc = .ok (.putfield index, 3)) (ha : zk Z a ci) (hF : zF cy Z S a = .inr (ci, fs)) (hc : vwCl[ci]? = some (Cn, T, N)) (hk : k < N) (hin : ∀ w ∈ u_ws Cn T N, w ∈ Ts) (hty : ∀ k, k < N → parseFieldDescriptor (T k).2.2.1 = some (ty0 k)) (hnm : ∀ a, a < N → ∀ b, b < N → a ≠ b → (T a).2.1 ≠ (T b).2.1) (hlink : Cond.fieldLink own index ref (T k).2.1 (T k).2.2.1 ∈ Ts) (href : (T k).1 = ref) (hfin : (T k).2.2.2 = false ∨ ((T k).2.2.2 = true ∧ meth.name = "<init>" ∧ (T k).1 = own)) (hn : narrow (ty0 k) v = v) (hfit : fits (ty0 k) v = true) (hl2 : k < fs.length) (hL : zL Z' = zL Z) (he : zF cy Z' S' a = .inr (ci, fs.set k v)) (hoff : ∀ b, b ≠ a → zF cy Z' S' b = zF cy Z S b) (hq : pc + 3 = q) (kk : zG p l e R s m args below meth c D cy A nL cells slots Q Z' S' (q) lv (st)) : zG p l e R s m args below meth c D cy A nL cells slots Q Z S (pc) lv (v :: .ref a :: st) := by
  subst hq
  subst href
  intro H locs ls hP hD hS hl
  obtain ⟨j, hj⟩ := zget ha.1 hF
  have hset := zset hD ha.1 hF hj hL he hoff
  rcases hfin with hfin | ⟨hfin, h1, h2⟩
  · exact va_put (D := D) (cl := vwCl) C0.1.1 C0.1.2.1 C0.1.2.2.2.2 hin ty0 hty hnm C0.1.2.2.2.1 C0.2.1.1 hP hD hS j hj hc k hk (C0.1.2.2.2.2 _ hlink) (fun _ h => h) hfin (hty k hk) hn hfit hl2 hdg (fun H1 locs1 hP1 hD1 hS1 => kk H1 locs1 ls (hset ▸ hP1) (hset ▸ hD1) hS1 hl)
  · exact va_putF (D := D) (cl := vwCl) C0.1.1 C0.1.2.1 C0.1.2.2.2.2 hin ty0 hty hnm C0.1.2.2.2.1 C0.2.1.1 hP hD hS j hj hc k hk (C0.1.2.2.2.2 _ hlink) (fun _ h => h) hfin h1 h2 (hty k hk) hn hfit hl2 hdg (fun H1 locs1 hP1 hD1 hS1 => kk H1 locs1 ls (hset ▸ hP1) (hset ▸ hD1) hS1 hl)
theorem zg_iald (C0 : zC p s m args meth c cc nL Ts own D cy A rt) {a : Nat} {i : Int32} (hdg : decode cc pc = .ok (.iaload, 1)) (ha : zk Z a 8) (hi : vp_in i (zN Z a)) (hq : pc + 1 = q) (kk : zG p l e R s m args below meth c D cy A nL cells slots Q Z S (q) lv (.int (zI S a i.toNatClampNeg) :: st)) : zG p l e R s m args below meth c D cy A nL cells slots Q Z S (pc) lv (.int i :: .ref a :: st) := by
  subst hq
  intro H locs ls hP hD hS hl
  obtain ⟨j, hj⟩ := zget ha.1 (zF_8 cy ha)
  exact va_iald (D := D) (cl := vwCl) C0.1.1 C0.1.2.1 C0.2.1.1 hP j 0 hj rfl hi hdg (kk H locs ls hP hD hS hl)
theorem zg_zald (C0 : zC p s m args meth c cc nL Ts own D cy A rt) {a : Nat} {i : Int32} (hdg : decode cc pc = .ok (.baload, 1)) (ha : zk Z a 10) (hi : vp_in i (zN Z a)) (hq : pc + 1 = q) (kk : zG p l e R s m args below meth c D cy A nL cells slots Q Z S (q) lv (.int (zI S a i.toNatClampNeg) :: st)) : zG p l e R s m args below meth c D cy A nL cells slots Q Z S (pc) lv (.int i :: .ref a :: st) := by
  subst hq
  intro H locs ls hP hD hS hl
  obtain ⟨j, hj⟩ := zget ha.1 (zF_10 cy ha)
  exact va_zald (D := D) (cl := vwCl) C0.1.1 C0.1.2.1 C0.2.1.1 hP j 2 hj rfl hi hdg (kk H locs ls hP hD hS hl)
theorem zg_lald (C0 : zC p s m args meth c cc nL Ts own D cy A rt) {a : Nat} {i : Int32} (hdg : decode cc pc = .ok (.laload, 1)) (ha : zk Z a 9) (hi : vp_in i (zN Z a)) (hq : pc + 1 = q) (kk : zG p l e R s m args below meth c D cy A nL cells slots Q Z S (q) lv (.long (zJ S a i.toNatClampNeg) :: st)) : zG p l e R s m args below meth c D cy A nL cells slots Q Z S (pc) lv (.int i :: .ref a :: st) := by
  subst hq
  intro H locs ls hP hD hS hl
  obtain ⟨j, hj⟩ := zget ha.1 (zF_9 cy ha)
  exact va_lald (D := D) (cl := vwCl) C0.1.1 C0.1.2.1 C0.2.1.1 hP j 1 hj rfl hi hdg (kk H locs ls hP hD hS hl)
theorem zg_aald_11 (C0 : zC p s m args meth c cc nL Ts own D cy A rt) {a : Nat} {i : Int32} (hdg : decode cc pc = .ok (.aaload, 1)) (ha : zk Z a 11) (hi : vp_in i (zN Z a)) (hq : pc + 1 = q) (kk : zG p l e R s m args below meth c D cy A nL cells slots Q Z S (q) lv (va_rf (zR S a i.toNatClampNeg) :: st)) : zG p l e R s m args below meth c D cy A nL cells slots Q Z S (pc) lv (.int i :: .ref a :: st) := by
  subst hq
  intro H locs ls hP hD hS hl
  obtain ⟨j, hj⟩ := zget ha.1 (zF_11 cy ha)
  exact va_aldq (D := D) (cl := vwCl) C0.1.1 C0.1.2.1 C0.2.1.1 hP j 3 hj rfl hi hdg (kk H locs ls hP hD hS hl)
theorem zg_aald_12 (C0 : zC p s m args meth c cc nL Ts own D cy A rt) {a : Nat} {i : Int32} (hdg : decode cc pc = .ok (.aaload, 1)) (ha : zk Z a 12) (hi : vp_in i (zN Z a)) (hq : pc + 1 = q) (kk : zG p l e R s m args below meth c D cy A nL cells slots Q Z S (q) lv (va_rf (zQ Z a i.toNatClampNeg) :: st)) : zG p l e R s m args below meth c D cy A nL cells slots Q Z S (pc) lv (.int i :: .ref a :: st) := by
  subst hq
  intro H locs ls hP hD hS hl
  obtain ⟨j, hj⟩ := zget ha.1 (zF_12 cy ha)
  exact va_aldq (D := D) (cl := vwCl) C0.1.1 C0.1.2.1 C0.2.1.1 hP j 4 hj rfl hi hdg (kk H locs ls hP hD hS hl)
theorem zg_aald_13 (C0 : zC p s m args meth c cc nL Ts own D cy A rt) {a : Nat} {i : Int32} (hdg : decode cc pc = .ok (.aaload, 1)) (ha : zk Z a 13) (hi : vp_in i (zN Z a)) (hq : pc + 1 = q) (kk : zG p l e R s m args below meth c D cy A nL cells slots Q Z S (q) lv (va_rf (zQ Z a i.toNatClampNeg) :: st)) : zG p l e R s m args below meth c D cy A nL cells slots Q Z S (pc) lv (.int i :: .ref a :: st) := by
  subst hq
  intro H locs ls hP hD hS hl
  obtain ⟨j, hj⟩ := zget ha.1 (zF_13 cy ha)
  exact va_aldq (D := D) (cl := vwCl) C0.1.1 C0.1.2.1 C0.2.1.1 hP j 5 hj rfl hi hdg (kk H locs ls hP hD hS hl)
theorem zg_alen_8 (C0 : zC p s m args meth c cc nL Ts own D cy A rt) {a : Nat} (hdg : decode cc pc = .ok (.arraylength, 1)) (ha : zk Z a 8) (hq : pc + 1 = q) (kk : zG p l e R s m args below meth c D cy A nL cells slots Q Z S (q) lv (.int (nI (zN Z a)) :: st)) : zG p l e R s m args below meth c D cy A nL cells slots Q Z S (pc) lv (.ref a :: st) := by
  subst hq
  intro H locs ls hP hD hS hl
  obtain ⟨j, hj⟩ := zget ha.1 (zF_8 cy ha)
  exact va_alen (D := D) (cl := vwCl) C0.1.1 C0.1.2.1 C0.2.1.1 hP j 0 hj rfl rfl hdg (kk H locs ls hP hD hS hl)
theorem zg_alen_9 (C0 : zC p s m args meth c cc nL Ts own D cy A rt) {a : Nat} (hdg : decode cc pc = .ok (.arraylength, 1)) (ha : zk Z a 9) (hq : pc + 1 = q) (kk : zG p l e R s m args below meth c D cy A nL cells slots Q Z S (q) lv (.int (nI (zN Z a)) :: st)) : zG p l e R s m args below meth c D cy A nL cells slots Q Z S (pc) lv (.ref a :: st) := by
  subst hq
  intro H locs ls hP hD hS hl
  obtain ⟨j, hj⟩ := zget ha.1 (zF_9 cy ha)
  exact va_alen (D := D) (cl := vwCl) C0.1.1 C0.1.2.1 C0.2.1.1 hP j 1 hj rfl rfl hdg (kk H locs ls hP hD hS hl)
theorem zg_alen_10 (C0 : zC p s m args meth c cc nL Ts own D cy A rt) {a : Nat} (hdg : decode cc pc = .ok (.arraylength, 1)) (ha : zk Z a 10) (hq : pc + 1 = q) (kk : zG p l e R s m args below meth c D cy A nL cells slots Q Z S (q) lv (.int (nI (zN Z a)) :: st)) : zG p l e R s m args below meth c D cy A nL cells slots Q Z S (pc) lv (.ref a :: st) := by
  subst hq
  intro H locs ls hP hD hS hl
  obtain ⟨j, hj⟩ := zget ha.1 (zF_10 cy ha)
  exact va_alen (D := D) (cl := vwCl) C0.1.1 C0.1.2.1 C0.2.1.1 hP j 2 hj rfl rfl hdg (kk H locs ls hP hD hS hl)
theorem zg_alen_11 (C0 : zC p s m args meth c cc nL Ts own D cy A rt) {a : Nat} (hdg : decode cc pc = .ok (.arraylength, 1)) (ha : zk Z a 11) (hq : pc + 1 = q) (kk : zG p l e R s m args below meth c D cy A nL cells slots Q Z S (q) lv (.int (nI (zN Z a)) :: st)) : zG p l e R s m args below meth c D cy A nL cells slots Q Z S (pc) lv (.ref a :: st) := by
  subst hq
  intro H locs ls hP hD hS hl
  obtain ⟨j, hj⟩ := zget ha.1 (zF_11 cy ha)
  exact va_alen (D := D) (cl := vwCl) C0.1.1 C0.1.2.1 C0.2.1.1 hP j 3 hj rfl rfl hdg (kk H locs ls hP hD hS hl)
theorem zg_alen_12 (C0 : zC p s m args meth c cc nL Ts own D cy A rt) {a : Nat} (hdg : decode cc pc = .ok (.arraylength, 1)) (ha : zk Z a 12) (hq : pc + 1 = q) (kk : zG p l e R s m args below meth c D cy A nL cells slots Q Z S (q) lv (.int (nI (zN Z a)) :: st)) : zG p l e R s m args below meth c D cy A nL cells slots Q Z S (pc) lv (.ref a :: st) := by
  subst hq
  intro H locs ls hP hD hS hl
  obtain ⟨j, hj⟩ := zget ha.1 (zF_12 cy ha)
  exact va_alen (D := D) (cl := vwCl) C0.1.1 C0.1.2.1 C0.2.1.1 hP j 4 hj rfl rfl hdg (kk H locs ls hP hD hS hl)
theorem zg_alen_13 (C0 : zC p s m args meth c cc nL Ts own D cy A rt) {a : Nat} (hdg : decode cc pc = .ok (.arraylength, 1)) (ha : zk Z a 13) (hq : pc + 1 = q) (kk : zG p l e R s m args below meth c D cy A nL cells slots Q Z S (q) lv (.int (nI (zN Z a)) :: st)) : zG p l e R s m args below meth c D cy A nL cells slots Q Z S (pc) lv (.ref a :: st) := by
  subst hq
  intro H locs ls hP hD hS hl
  obtain ⟨j, hj⟩ := zget ha.1 (zF_13 cy ha)
  exact va_alen (D := D) (cl := vwCl) C0.1.1 C0.1.2.1 C0.2.1.1 hP j 5 hj rfl rfl hdg (kk H locs ls hP hD hS hl)
theorem zF_sI8 (cy : Nat → ClassId) {Z : zZ} {S : zS} {a : Nat} (h : zk Z a 8) (i : Nat) (v : Int32) : zF cy Z (zsI S a i v) a = .inl (cy 0, zN Z a, .inl (upd (zI S a) i v)) := by
  rw [zF_8 cy h]
  show _ = (Sum.inl (cy 0, zN Z a, Sum.inl _) : va_E)
  rw [show zI (zsI S a i v) a = upd (zI S a) i v from zu_eq (zI S) a i v]
theorem zF_sI10 (cy : Nat → ClassId) {Z : zZ} {S : zS} {a : Nat} (h : zk Z a 10) (i : Nat) (v : Int32) : zF cy Z (zsI S a i v) a = .inl (cy 2, zN Z a, .inl (upd (zI S a) i v)) := by
  rw [zF_10 cy h]
  rw [show zI (zsI S a i v) a = upd (zI S a) i v from zu_eq (zI S) a i v]
theorem zF_sJ9 (cy : Nat → ClassId) {Z : zZ} {S : zS} {a : Nat} (h : zk Z a 9) (i : Nat) (v : Int64) : zF cy Z (zsJ S a i v) a = .inl (cy 1, zN Z a, .inr (.inl (vp_updL (zJ S a) i v))) := by
  rw [zF_9 cy h]
  rw [show zJ (zsJ S a i v) a = vp_updL (zJ S a) i v from zu_eq (zJ S) a i v]
theorem zF_sR11 (cy : Nat → ClassId) {Z : zZ} {S : zS} {a : Nat} (h : zk Z a 11) (i : Nat) (v : Option Nat) : zF cy Z (zsR S a i v) a = .inl (cy 3, zN Z a, .inr (.inr (.inr (.inr (va_up (zR S a) i v))))) := by
  rw [zF_11 cy h]
  rw [show zR (zsR S a i v) a = va_up (zR S a) i v from zu_eq (zR S) a i v]
theorem zF_sQ12 (cy : Nat → ClassId) {Z : zZ} {S : zS} {a : Nat} (h : zk Z a 12) (i : Nat) (v : Option Nat) : zF cy (zsQ Z a i v) S a = .inl (cy 4, zN Z a, .inr (.inr (.inr (.inr (va_up (zQ Z a) i v))))) := by
  rw [zF_12 cy (show zk (zsQ Z a i v) a 12 from h)]
  rw [show zQ (zsQ Z a i v) a = va_up (zQ Z a) i v from zu_eq (zQ Z) a i v]
  rfl
theorem zF_sQ13 (cy : Nat → ClassId) {Z : zZ} {S : zS} {a : Nat} (h : zk Z a 13) (i : Nat) (v : Option Nat) : zF cy (zsQ Z a i v) S a = .inl (cy 5, zN Z a, .inr (.inr (.inr (.inr (va_up (zQ Z a) i v))))) := by
  rw [zF_13 cy (show zk (zsQ Z a i v) a 13 from h)]
  rw [show zQ (zsQ Z a i v) a = va_up (zQ Z a) i v from zu_eq (zQ Z) a i v]
  rfl
theorem zg_iast (C0 : zC p s m args meth c cc nL Ts own D cy A rt) {a : Nat} {i : Int32} {x : Int32} (hdg : decode cc pc = .ok (.iastore, 1)) (ha : zk Z a 8) (hi : vp_in i (zN Z a)) (hq : pc + 1 = q) (kk : ∀ S' : zS, S' = zsI S a i.toNatClampNeg (x) → zG p l e R s m args below meth c D cy A nL cells slots Q Z S' (q) lv (st)) : zG p l e R s m args below meth c D cy A nL cells slots Q Z S (pc) lv (.int x :: .int i :: .ref a :: st) := by
  subst hq
  intro H locs ls hP hD hS hl
  obtain ⟨j, hj⟩ := zget ha.1 (zF_8 cy ha)
  have hset := zset (S' := zsI S a i.toNatClampNeg x) hD ha.1 (zF_8 cy ha) hj rfl (zF_sI8 cy ha i.toNatClampNeg x) (zF_offI cy Z S a i.toNatClampNeg x)
  refine va_iast (D := D) (cl := vwCl) C0.1.1 C0.1.2.1 C0.2.1.1 hP hD hS j 0 hj rfl hi hdg (fun H1 locs1 hP1 hD1 hS1 => ?_)
  exact kk _ rfl H1 locs1 ls (hset ▸ hP1) (hset ▸ hD1) hS1 hl
theorem zg_last (C0 : zC p s m args meth c cc nL Ts own D cy A rt) {a : Nat} {i : Int32} {x : Int64} (hdg : decode cc pc = .ok (.lastore, 1)) (ha : zk Z a 9) (hi : vp_in i (zN Z a)) (hq : pc + 1 = q) (kk : ∀ S' : zS, S' = zsJ S a i.toNatClampNeg (x) → zG p l e R s m args below meth c D cy A nL cells slots Q Z S' (q) lv (st)) : zG p l e R s m args below meth c D cy A nL cells slots Q Z S (pc) lv (.long x :: .int i :: .ref a :: st) := by
  subst hq
  intro H locs ls hP hD hS hl
  obtain ⟨j, hj⟩ := zget ha.1 (zF_9 cy ha)
  have hset := zset (S' := zsJ S a i.toNatClampNeg x) hD ha.1 (zF_9 cy ha) hj rfl (zF_sJ9 cy ha i.toNatClampNeg x) (zF_offJ cy Z S a i.toNatClampNeg x)
  refine va_last (D := D) (cl := vwCl) C0.1.1 C0.1.2.1 C0.2.1.1 hP hD hS j 1 hj rfl hi hdg (fun H1 locs1 hP1 hD1 hS1 => ?_)
  exact kk _ rfl H1 locs1 ls (hset ▸ hP1) (hset ▸ hD1) hS1 hl
theorem zg_zast (C0 : zC p s m args meth c cc nL Ts own D cy A rt) {a : Nat} {i : Int32} {x : Int32} (hdg : decode cc pc = .ok (.bastore, 1)) (ha : zk Z a 10) (hi : vp_in i (zN Z a)) (hx : vp_nar .boolean x = x) (hq : pc + 1 = q) (kk : ∀ S' : zS, S' = zsI S a i.toNatClampNeg (x) → zG p l e R s m args below meth c D cy A nL cells slots Q Z S' (q) lv (st)) : zG p l e R s m args below meth c D cy A nL cells slots Q Z S (pc) lv (.int x :: .int i :: .ref a :: st) := by
  subst hq
  intro H locs ls hP hD hS hl
  obtain ⟨j, hj⟩ := zget ha.1 (zF_10 cy ha)
  have hset := zset (S' := zsI S a i.toNatClampNeg x) hD ha.1 (zF_10 cy ha) hj rfl (zF_sI10 cy ha i.toNatClampNeg x) (zF_offI cy Z S a i.toNatClampNeg x)
  refine va_zast (D := D) (cl := vwCl) C0.1.1 C0.1.2.1 C0.2.1.1 hP hD hS j 2 hj rfl hi hdg (fun H1 locs1 hP1 hD1 hS1 => ?_)
  rw [hx] at hP1 hD1
  exact kk _ rfl H1 locs1 ls (hset ▸ hP1) (hset ▸ hD1) hS1 hl
theorem zg_aast_11 (C0 : zC p s m args meth c cc nL Ts own D cy A rt) {a v : Nat} {i : Int32} (hdg : decode cc pc = .ok (.aastore, 1)) (ha : zk Z a 11) (hv : zk Z v 1) (hi : vp_in i (zN Z a)) (hq : pc + 1 = q) (kk : ∀ S' : zS, S' = zsR S a i.toNatClampNeg (some v) → zG p l e R s m args below meth c D cy A nL cells slots Q Z S' (q) lv (st)) : zG p l e R s m args below meth c D cy A nL cells slots Q Z S (pc) lv (.ref v :: .int i :: .ref a :: st) := by
  subst hq
  intro H locs ls hP hD hS hl
  obtain ⟨j, hj⟩ := zget ha.1 (zF_11 cy ha)
  obtain ⟨j2, hj2⟩ := zget hv.1 (zF_1 cy hv)
  have hset := zset (S' := zsR S a i.toNatClampNeg (some v)) hD ha.1 (zF_11 cy ha) hj rfl (zF_sR11 cy ha i.toNatClampNeg (some v)) (zF_offR cy Z S a i.toNatClampNeg (some v))
  exact va_astq (D := D) (cl := vwCl) C0.1.1 C0.1.2.1 C0.2.1.1 hP hD hS j 3 j2 1 (r := (RX1, TX1, 4)) hj rfl hj2 rfl hi hdg (fun H1 locs1 hP1 hD1 hS1 => kk _ rfl H1 locs1 ls (hset ▸ hP1) (hset ▸ hD1) hS1 hl)
theorem zg_aastN_11 (C0 : zC p s m args meth c cc nL Ts own D cy A rt) {a : Nat} {i : Int32} (hdg : decode cc pc = .ok (.aastore, 1)) (ha : zk Z a 11) (hi : vp_in i (zN Z a)) (hq : pc + 1 = q) (kk : ∀ S' : zS, S' = zsR S a i.toNatClampNeg (none) → zG p l e R s m args below meth c D cy A nL cells slots Q Z S' (q) lv (st)) : zG p l e R s m args below meth c D cy A nL cells slots Q Z S (pc) lv (.null :: .int i :: .ref a :: st) := by
  subst hq
  intro H locs ls hP hD hS hl
  obtain ⟨j, hj⟩ := zget ha.1 (zF_11 cy ha)
  have hset := zset (S' := zsR S a i.toNatClampNeg (none)) hD ha.1 (zF_11 cy ha) hj rfl (zF_sR11 cy ha i.toNatClampNeg (none)) (zF_offR cy Z S a i.toNatClampNeg (none))
  exact va_astqN (D := D) (cl := vwCl) C0.1.1 C0.1.2.1 C0.2.1.1 hP hD hS j 3 hj rfl hi hdg (fun H1 locs1 hP1 hD1 hS1 => kk _ rfl H1 locs1 ls (hset ▸ hP1) (hset ▸ hD1) hS1 hl)
theorem zg_aast_12 (C0 : zC p s m args meth c cc nL Ts own D cy A rt) {a v : Nat} {i : Int32} (hdg : decode cc pc = .ok (.aastore, 1)) (ha : zk Z a 12) (hv : zk Z v 2) (hi : vp_in i (zN Z a)) (hq : pc + 1 = q) (kk : ∀ Z' : zZ, Z' = zsQ Z a i.toNatClampNeg (some v) → zG p l e R s m args below meth c D cy A nL cells slots Q Z' S (q) lv (st)) : zG p l e R s m args below meth c D cy A nL cells slots Q Z S (pc) lv (.ref v :: .int i :: .ref a :: st) := by
  subst hq
  intro H locs ls hP hD hS hl
  obtain ⟨j, hj⟩ := zget ha.1 (zF_12 cy ha)
  obtain ⟨j2, hj2⟩ := zget hv.1 (zF_2 cy hv)
  have hset := zset (Z' := zsQ Z a i.toNatClampNeg (some v)) hD ha.1 (zF_12 cy ha) hj rfl (zF_sQ12 cy ha i.toNatClampNeg (some v)) (zF_offQ cy Z S a i.toNatClampNeg (some v))
  exact va_astq (D := D) (cl := vwCl) C0.1.1 C0.1.2.1 C0.2.1.1 hP hD hS j 4 j2 2 (r := (RX2, TX2, 13)) hj rfl hj2 rfl hi hdg (fun H1 locs1 hP1 hD1 hS1 => kk _ rfl H1 locs1 ls (hset ▸ hP1) (hset ▸ hD1) hS1 hl)
theorem zg_aastN_12 (C0 : zC p s m args meth c cc nL Ts own D cy A rt) {a : Nat} {i : Int32} (hdg : decode cc pc = .ok (.aastore, 1)) (ha : zk Z a 12) (hi : vp_in i (zN Z a)) (hq : pc + 1 = q) (kk : ∀ Z' : zZ, Z' = zsQ Z a i.toNatClampNeg (none) → zG p l e R s m args below meth c D cy A nL cells slots Q Z' S (q) lv (st)) : zG p l e R s m args below meth c D cy A nL cells slots Q Z S (pc) lv (.null :: .int i :: .ref a :: st) := by
  subst hq
  intro H locs ls hP hD hS hl
  obtain ⟨j, hj⟩ := zget ha.1 (zF_12 cy ha)
  have hset := zset (Z' := zsQ Z a i.toNatClampNeg (none)) hD ha.1 (zF_12 cy ha) hj rfl (zF_sQ12 cy ha i.toNatClampNeg (none)) (zF_offQ cy Z S a i.toNatClampNeg (none))
  exact va_astqN (D := D) (cl := vwCl) C0.1.1 C0.1.2.1 C0.2.1.1 hP hD hS j 4 hj rfl hi hdg (fun H1 locs1 hP1 hD1 hS1 => kk _ rfl H1 locs1 ls (hset ▸ hP1) (hset ▸ hD1) hS1 hl)
theorem zg_aast_13 (C0 : zC p s m args meth c cc nL Ts own D cy A rt) {a v : Nat} {i : Int32} (hdg : decode cc pc = .ok (.aastore, 1)) (ha : zk Z a 13) (hv : zk Z v 5) (hi : vp_in i (zN Z a)) (hq : pc + 1 = q) (kk : ∀ Z' : zZ, Z' = zsQ Z a i.toNatClampNeg (some v) → zG p l e R s m args below meth c D cy A nL cells slots Q Z' S (q) lv (st)) : zG p l e R s m args below meth c D cy A nL cells slots Q Z S (pc) lv (.ref v :: .int i :: .ref a :: st) := by
  subst hq
  intro H locs ls hP hD hS hl
  obtain ⟨j, hj⟩ := zget ha.1 (zF_13 cy ha)
  obtain ⟨j2, hj2⟩ := zget hv.1 (zF_5 cy hv)
  have hset := zset (Z' := zsQ Z a i.toNatClampNeg (some v)) hD ha.1 (zF_13 cy ha) hj rfl (zF_sQ13 cy ha i.toNatClampNeg (some v)) (zF_offQ cy Z S a i.toNatClampNeg (some v))
  exact va_astq (D := D) (cl := vwCl) C0.1.1 C0.1.2.1 C0.2.1.1 hP hD hS j 5 j2 5 (r := (RX5, TX5, 6)) hj rfl hj2 rfl hi hdg (fun H1 locs1 hP1 hD1 hS1 => kk _ rfl H1 locs1 ls (hset ▸ hP1) (hset ▸ hD1) hS1 hl)
theorem zg_aastN_13 (C0 : zC p s m args meth c cc nL Ts own D cy A rt) {a : Nat} {i : Int32} (hdg : decode cc pc = .ok (.aastore, 1)) (ha : zk Z a 13) (hi : vp_in i (zN Z a)) (hq : pc + 1 = q) (kk : ∀ Z' : zZ, Z' = zsQ Z a i.toNatClampNeg (none) → zG p l e R s m args below meth c D cy A nL cells slots Q Z' S (q) lv (st)) : zG p l e R s m args below meth c D cy A nL cells slots Q Z S (pc) lv (.null :: .int i :: .ref a :: st) := by
  subst hq
  intro H locs ls hP hD hS hl
  obtain ⟨j, hj⟩ := zget ha.1 (zF_13 cy ha)
  have hset := zset (Z' := zsQ Z a i.toNatClampNeg (none)) hD ha.1 (zF_13 cy ha) hj rfl (zF_sQ13 cy ha i.toNatClampNeg (none)) (zF_offQ cy Z S a i.toNatClampNeg (none))
  exact va_astqN (D := D) (cl := vwCl) C0.1.1 C0.1.2.1 C0.2.1.1 hP hD hS j 5 hj rfl hi hdg (fun H1 locs1 hP1 hD1 hS1 => kk _ rfl H1 locs1 ls (hset ▸ hP1) (hset ▸ hD1) hS1 hl)
theorem zA_sub (hA : ∀ q : Nat, s.heap.size ≤ q → A q) {H : Heap} {locs : List Loc} (hD : va_D A (zW cy Z S)) (hS : va_S A s.heap H locs) : ∀ q, zA cy Z S H.size q → A q := by
  intro q h
  rcases h with ⟨k, x, hk⟩ | h
  · exact hD.2 k (q, x) hk
  · exact hA q (Nat.le_trans hS.1 h)
def zMv (l : Launch) (y : MethodName) (ws : List Cond) (rm : Room) (D : va_G) (cy : Nat → ClassId) (Z : zZ) (S : zS) (sz : Nat) (av : List Value) (Qp : zS → Prop) : Prop := Met l y ws rm (zPc D cy Z S sz av) (va_Qv Qp (zB D cy (zA cy Z S sz) Z) (zA cy Z S sz)) rm.cells rm.slots (zA cy Z S sz)
abbrev zQv (below : List Frame) (D : va_G) (cy : Nat → ClassId) (A : Nat → Prop) (Z : zZ) (Qp : zS → Prop) (args : Array Value) (s : State) (mc ms : Nat) : State → Prop := MQ below (va_Qv Qp (zB D cy A Z) A) args s mc ms A
theorem zMv_of {y : MethodName} {ws ws' : List Cond} {rm : Room} {sz maxL : Nat} {av : List Value} {Qp : zS → Prop} (hy : plainName y.cls = true) (hw : ws = Cond.code y cc maxL rt :: ws') (hlen : (lg_sl av).length ≤ maxL)
    (body : ∀ (p : Program) (e : Env) (s : State) (m : MethodId) (args : Array Value) (below : List Frame) (meth : Method) (c : Code) (A : Nat → Prop), zC p s m args meth c cc maxL ws y.cls D cy A rt → meth.name = y.name → zG p l e (headSpec ws rm).room s m args below meth c D cy A maxL 0 0 (zQv below D cy A Z Qp args s rm.cells rm.slots) Z S 0 (lv_args 0 av) []) : zMv l y ws rm D cy Z S sz av Qp := by
  refine Met.ofW (cc := cc) (maxL := maxL) (ret := rt) hy hw ?_
  intro p e s m args below meth c s₁ B hml hv
  obtain ⟨rfl, hsz, hP, hD0, hV⟩ := hv
  subst hsz
  have hts := atoms_spec (ws := ws) B.pre
  have hown : s.vm.findClass y.cls = some m.cls := findClass_of_methodNamed B.named
  have hl := lv_entry av (n := maxL) hlen
  rw [lg_entry_eq]
  exact body p e s m av.toArray below meth c (zA cy Z S s.heap.size) ⟨⟨B.exec, B.bytes, hml, hown, hts⟩, hV, fun q h => Or.inr h, B.returns, B.notSynchronized⟩ (name_of_methodNamed B.named B.method).1 s.heap [] _ hP hD0.self va_S.rf hl
theorem zg_callVv (C0 : zC p s m args meth c cc nL Ts own D cy A rt) {Cn : String} {T : u_T} {N ci : Nat} {fs : List Value} {b : Nat} {ret : Option FieldType} {index maxL : Nat} {y : MethodName} {bytes : ByteArray} {ws ws' : List Cond} {rm : Room} (As rest : List Value) {Qp : zS → Prop} (hdg : decode cc pc = .ok (.invokevirtual index, 3)) (hM : ∀ sz, zMv l y ws rm D cy Z S sz (.ref b :: As) Qp) (hw : ws = Cond.code y bytes maxL ret :: ws') (hG : GoodIn Ts (wsV own index Cn y ws)) (hd : y.cls = Cn ∧ y.cls ≠ "java/lang/invoke/MethodHandle" ∧ y.cls ≠ "java/lang/invoke/VarHandle" ∧ (parseMethodDescriptor y.desc).map (fun d => d.parameters.length) = some As.length) (hb : zk Z b ci) (hF : zF cy Z S b = .inr (ci, fs)) (hc : vwCl[ci]? = some (Cn, T, N)) (hst : st = As.reverse ++ .ref b :: rest) (hR : rm.frames + 1 ≤ R.frames ∧ 8 + (maxL + 11) + rm.locals ≤ R.locals) (hcat : (rest.map fun v => v.category).sum ≤ 8) (hfit : cells ≤ R.cells ∧ slots ≤ R.slots) (hro : rm.cells = 0 ∧ rm.slots = 0) (hq : pc + 3 = q)
    (kk : ∀ τ, Qp τ → zG p l e R s m args below meth c D cy A nL cells slots Q Z τ (q) lv (rest)) : zG p l e R s m args below meth c D cy A nL cells slots Q Z S (pc) lv (st) := by
  subst hq
  intro H locs ls hP hD hS hl
  obtain ⟨j, hj⟩ := zget hb.1 hF
  have hA1 : ∀ q, zA cy Z S H.size q → A q := zA_sub C0.2.2.1 hD hS
  refine va_callv (va_runV (As := As) (rest := rest) C0.1 (hM H.size) (cwV As.length C0.1.2.2.2.2 hG hw rfl rfl hd hR) ⟨zPc_blind, va_recv C0.2.1.1 hP hc hj, fun U hU hW => ⟨rfl, by rw [hU], by rw [hU]; exact hP, hD.weaken (fun _ _ _ _ => trivial), C0.2.1.call hS hA1 hU hW⟩⟩ rfl rfl hl.1 hst (lv_room hcat) hdg ⟨by rw [hro.1]; exact hfit.1, by rw [hro.2]; exact hfit.2⟩) hS (fun q _ h => hA1 q h) hA1 (fun u t H1 locs1 ht hvm hw hB hz1 hk1 hS1 => ?_)
  subst ht
  rw [hro.1, hro.2]
  exact kk u hw _ locs1 ls hB.1 (hB.2.weaken (fun k x hk h => hA1 x.1 h)) hS1 hl
theorem zg_callSv (C0 : zC p s m args meth c cc nL Ts own D cy A rt) {ret : Option FieldType} {index maxL : Nat} {y : MethodName} {bytes : ByteArray} {ws ws' : List Cond} {rm : Room} (As rest : List Value) {Qp : zS → Prop} (hdg : decode cc pc = .ok (.invokestatic index, 3)) (hM : ∀ sz, zMv l y ws rm D cy Z S sz (As) Qp) (hw : ws = Cond.code y bytes maxL ret :: ws') (hG : GoodIn Ts (va_wsS own index y ws)) (hd : y.cls ≠ "java/lang/invoke/MethodHandle" ∧ y.cls ≠ "java/lang/invoke/VarHandle" ∧ (parseMethodDescriptor y.desc).map (fun d => d.parameters.length) = some As.length) (hst : st = As.reverse ++ rest) (hR : rm.frames + 1 ≤ R.frames ∧ 8 + (maxL + 11) + rm.locals ≤ R.locals) (hcat : (rest.map fun v => v.category).sum ≤ 8) (hfit : cells ≤ R.cells ∧ slots ≤ R.slots) (hro : rm.cells = 0 ∧ rm.slots = 0) (hq : pc + 3 = q)
    (kk : ∀ τ, Qp τ → zG p l e R s m args below meth c D cy A nL cells slots Q Z τ (q) lv (rest)) : zG p l e R s m args below meth c D cy A nL cells slots Q Z S (pc) lv (st) := by
  subst hq
  intro H locs ls hP hD hS hl
  have hA1 : ∀ q, zA cy Z S H.size q → A q := zA_sub C0.2.2.1 hD hS
  refine va_callv (va_runS (As := As) (rest := rest) C0.1 (hM H.size) (va_cwS As.length C0.1.2.2.2.2 hG hw rfl rfl hd hR) ⟨zPc_blind, fun U hU hW => ⟨rfl, by rw [hU], by rw [hU]; exact hP, hD.weaken (fun _ _ _ _ => trivial), C0.2.1.call hS hA1 hU hW⟩⟩ rfl rfl hl.1 hst (lv_room hcat) hdg ⟨by rw [hro.1]; exact hfit.1, by rw [hro.2]; exact hfit.2⟩) hS (fun q _ h => hA1 q h) hA1 (fun u t H1 locs1 ht hvm hw hB hz1 hk1 hS1 => ?_)
  subst ht
  rw [hro.1, hro.2]
  exact kk u hw _ locs1 ls hB.1 (hB.2.weaken (fun k x hk h => hA1 x.1 h)) hS1 hl
theorem zg_callSNv (C0 : zC p s m args meth c cc nL Ts own D cy A rt) {host : String} {ret : Option FieldType} {index maxL : Nat} {y : MethodName} {bytes : ByteArray} {ws ws' : List Cond} {rm : Room} (As rest : List Value) {Qp : zS → Prop} (hdg : decode cc pc = .ok (.invokestatic index, 3)) (hM : ∀ sz, zMv l y ws rm D cy Z S sz (As) Qp) (hw : ws = Cond.code y bytes maxL ret :: ws') (hG : GoodIn Ts ws) (hd : y.cls ≠ "java/lang/invoke/MethodHandle" ∧ y.cls ≠ "java/lang/invoke/VarHandle" ∧ (parseMethodDescriptor y.desc).map (fun d => d.parameters.length) = some As.length) (hnest : Cond.methodLinkNest own index y host ∈ zBw) (hini : Cond.initialized y.cls ∈ Ts) (hsta : Cond.static y ∈ Ts) (hst : st = As.reverse ++ rest) (hR : rm.frames + 1 ≤ R.frames ∧ 8 + (maxL + 11) + rm.locals ≤ R.locals) (hcat : (rest.map fun v => v.category).sum ≤ 8) (hfit : cells ≤ R.cells ∧ slots ≤ R.slots) (hro : rm.cells = 0 ∧ rm.slots = 0) (hq : pc + 3 = q)
    (kk : ∀ τ, Qp τ → zG p l e R s m args below meth c D cy A nL cells slots Q Z τ (q) lv (rest)) : zG p l e R s m args below meth c D cy A nL cells slots Q Z S (pc) lv (st) := by
  subst hq
  intro H locs ls hP hD hS hl
  have hA1 : ∀ q, zA cy Z S H.size q → A q := zA_sub C0.2.2.1 hD hS
  refine va_callv (va_runSN (As := As) (rest := rest) C0.1 (hM H.size) (⟨va_cnB As.length C0.1.2.2.2.2 hG hw rfl rfl (C0.2.1.2.1 _ hnest) (C0.1.2.2.2.2 _ hini) hd hR, C0.1.2.2.2.2 _ hsta, trivial⟩) ⟨zPc_blind, fun U hU hW => ⟨rfl, by rw [hU], by rw [hU]; exact hP, hD.weaken (fun _ _ _ _ => trivial), C0.2.1.call hS hA1 hU hW⟩⟩ rfl rfl hl.1 hst (lv_room hcat) hdg ⟨by rw [hro.1]; exact hfit.1, by rw [hro.2]; exact hfit.2⟩) hS (fun q _ h => hA1 q h) hA1 (fun u t H1 locs1 ht hvm hw hB hz1 hk1 hS1 => ?_)
  subst ht
  rw [hro.1, hro.2]
  exact kk u hw _ locs1 ls hB.1 (hB.2.weaken (fun k x hk h => hA1 x.1 h)) hS1 hl
theorem zg_callIv (C0 : zC p s m args meth c cc nL Ts own D cy A rt) {b : Nat} {index maxL : Nat} {y : MethodName} {bytes : ByteArray} {ws ws' : List Cond} {rm : Room} (As rest : List Value) {Qp : zS → Prop} (hdg : decode cc pc = .ok (.invokespecial index, 3)) (hM : ∀ sz, zMv l y ws rm D cy Z S sz (.ref b :: As) Qp) (hw : ws = Cond.code y bytes maxL none :: ws') (hG : GoodIn Ts ws) (hd : y.cls ≠ "java/lang/invoke/MethodHandle" ∧ y.cls ≠ "java/lang/invoke/VarHandle" ∧ (parseMethodDescriptor y.desc).map (fun d => d.parameters.length) = some As.length) (hini : Cond.initialized y.cls ∈ Ts) (hlk : Cond.methodLink own index y ∈ Ts) (hins : Cond.instanceMethod y ∈ Ts) (hyn : y.name = "<init>") (hst : st = As.reverse ++ .ref b :: rest) (hR : rm.frames + 1 ≤ R.frames ∧ 8 + (maxL + 11) + rm.locals ≤ R.locals) (hcat : (rest.map fun v => v.category).sum ≤ 8) (hfit : cells ≤ R.cells ∧ slots ≤ R.slots) (hro : rm.cells = 0 ∧ rm.slots = 0) (hq : pc + 3 = q)
    (kk : ∀ τ, Qp τ → zG p l e R s m args below meth c D cy A nL cells slots Q Z τ (q) lv (rest)) : zG p l e R s m args below meth c D cy A nL cells slots Q Z S (pc) lv (st) := by
  subst hq
  intro H locs ls hP hD hS hl
  have hA1 : ∀ q, zA cy Z S H.size q → A q := zA_sub C0.2.2.1 hD hS
  refine va_callv (va_runI (As := As) (rest := rest) C0.1 (hM H.size) (cwI As.length C0.1.2.2.2.2 hG hw rfl rfl (C0.1.2.2.2.2 _ hini) (C0.1.2.2.2.2 _ hlk) (C0.1.2.2.2.2 _ hins) hyn hd hR) ⟨zPc_blind, fun U hU hW => ⟨rfl, by rw [hU], by rw [hU]; exact hP, hD.weaken (fun _ _ _ _ => trivial), C0.2.1.call hS hA1 hU hW⟩⟩ rfl rfl hl.1 hst (lv_room hcat) hdg ⟨by rw [hro.1]; exact hfit.1, by rw [hro.2]; exact hfit.2⟩) hS (fun q _ h => hA1 q h) hA1 (fun u t H1 locs1 ht hvm hw hB hz1 hk1 hS1 => ?_)
  subst ht
  rw [hro.1, hro.2]
  exact kk u hw _ locs1 ls hB.1 (hB.2.weaken (fun k x hk h => hA1 x.1 h)) hS1 hl
theorem zg_callINv (C0 : zC p s m args meth c cc nL Ts own D cy A rt) {host : String} {b : Nat} {index maxL : Nat} {y : MethodName} {bytes : ByteArray} {ws ws' : List Cond} {rm : Room} (As rest : List Value) {Qp : zS → Prop} (hdg : decode cc pc = .ok (.invokespecial index, 3)) (hM : ∀ sz, zMv l y ws rm D cy Z S sz (.ref b :: As) Qp) (hw : ws = Cond.code y bytes maxL none :: ws') (hG : GoodIn Ts ws) (hd : y.cls ≠ "java/lang/invoke/MethodHandle" ∧ y.cls ≠ "java/lang/invoke/VarHandle" ∧ (parseMethodDescriptor y.desc).map (fun d => d.parameters.length) = some As.length) (hnest : Cond.methodLinkNest own index y host ∈ zBw) (hini : Cond.initialized y.cls ∈ Ts) (hins : Cond.instanceMethod y ∈ Ts) (hyn : y.name = "<init>") (hst : st = As.reverse ++ .ref b :: rest) (hR : rm.frames + 1 ≤ R.frames ∧ 8 + (maxL + 11) + rm.locals ≤ R.locals) (hcat : (rest.map fun v => v.category).sum ≤ 8) (hfit : cells ≤ R.cells ∧ slots ≤ R.slots) (hro : rm.cells = 0 ∧ rm.slots = 0) (hq : pc + 3 = q)
    (kk : ∀ τ, Qp τ → zG p l e R s m args below meth c D cy A nL cells slots Q Z τ (q) lv (rest)) : zG p l e R s m args below meth c D cy A nL cells slots Q Z S (pc) lv (st) := by
  subst hq
  intro H locs ls hP hD hS hl
  have hA1 : ∀ q, zA cy Z S H.size q → A q := zA_sub C0.2.2.1 hD hS
  refine va_callv (va_runIN (As := As) (rest := rest) C0.1 (hM H.size) (⟨va_cnB As.length C0.1.2.2.2.2 hG hw rfl rfl (C0.2.1.2.1 _ hnest) (C0.1.2.2.2.2 _ hini) hd hR, hyn, C0.1.2.2.2.2 _ hins⟩) ⟨zPc_blind, fun U hU hW => ⟨rfl, by rw [hU], by rw [hU]; exact hP, hD.weaken (fun _ _ _ _ => trivial), C0.2.1.call hS hA1 hU hW⟩⟩ rfl rfl hl.1 hst (lv_room hcat) hdg ⟨by rw [hro.1]; exact hfit.1, by rw [hro.2]; exact hfit.2⟩) hS (fun q _ h => hA1 q h) hA1 (fun u t H1 locs1 ht hvm hw hB hz1 hk1 hS1 => ?_)
  subst ht
  rw [hro.1, hro.2]
  exact kk u hw _ locs1 ls hB.1 (hB.2.weaken (fun k x hk h => hA1 x.1 h)) hS1 hl
def zMi (l : Launch) (y : MethodName) (ws : List Cond) (rm : Room) (D : va_G) (cy : Nat → ClassId) (Z : zZ) (S : zS) (sz : Nat) (av : List Value) (Qp : Int32 → zS → Prop) : Prop := Met l y ws rm (zPc D cy Z S sz av) (va_Qi Qp (zB D cy (zA cy Z S sz) Z) (zA cy Z S sz)) rm.cells rm.slots (zA cy Z S sz)
abbrev zQi (below : List Frame) (D : va_G) (cy : Nat → ClassId) (A : Nat → Prop) (Z : zZ) (Qp : Int32 → zS → Prop) (args : Array Value) (s : State) (mc ms : Nat) : State → Prop := MQ below (va_Qi Qp (zB D cy A Z) A) args s mc ms A
theorem zMi_of {y : MethodName} {ws ws' : List Cond} {rm : Room} {sz maxL : Nat} {av : List Value} {Qp : Int32 → zS → Prop} (hy : plainName y.cls = true) (hw : ws = Cond.code y cc maxL rt :: ws') (hlen : (lg_sl av).length ≤ maxL)
    (body : ∀ (p : Program) (e : Env) (s : State) (m : MethodId) (args : Array Value) (below : List Frame) (meth : Method) (c : Code) (A : Nat → Prop), zC p s m args meth c cc maxL ws y.cls D cy A rt → meth.name = y.name → zG p l e (headSpec ws rm).room s m args below meth c D cy A maxL 0 0 (zQi below D cy A Z Qp args s rm.cells rm.slots) Z S 0 (lv_args 0 av) []) : zMi l y ws rm D cy Z S sz av Qp := by
  refine Met.ofW (cc := cc) (maxL := maxL) (ret := rt) hy hw ?_
  intro p e s m args below meth c s₁ B hml hv
  obtain ⟨rfl, hsz, hP, hD0, hV⟩ := hv
  subst hsz
  have hts := atoms_spec (ws := ws) B.pre
  have hown : s.vm.findClass y.cls = some m.cls := findClass_of_methodNamed B.named
  have hl := lv_entry av (n := maxL) hlen
  rw [lg_entry_eq]
  exact body p e s m av.toArray below meth c (zA cy Z S s.heap.size) ⟨⟨B.exec, B.bytes, hml, hown, hts⟩, hV, fun q h => Or.inr h, B.returns, B.notSynchronized⟩ (name_of_methodNamed B.named B.method).1 s.heap [] _ hP hD0.self va_S.rf hl
theorem zg_callVi (C0 : zC p s m args meth c cc nL Ts own D cy A rt) {Cn : String} {T : u_T} {N ci : Nat} {fs : List Value} {b : Nat} {ret : Option FieldType} {index maxL : Nat} {y : MethodName} {bytes : ByteArray} {ws ws' : List Cond} {rm : Room} (As rest : List Value) {Qp : Int32 → zS → Prop} (hdg : decode cc pc = .ok (.invokevirtual index, 3)) (hM : ∀ sz, zMi l y ws rm D cy Z S sz (.ref b :: As) Qp) (hw : ws = Cond.code y bytes maxL ret :: ws') (hG : GoodIn Ts (wsV own index Cn y ws)) (hd : y.cls = Cn ∧ y.cls ≠ "java/lang/invoke/MethodHandle" ∧ y.cls ≠ "java/lang/invoke/VarHandle" ∧ (parseMethodDescriptor y.desc).map (fun d => d.parameters.length) = some As.length) (hb : zk Z b ci) (hF : zF cy Z S b = .inr (ci, fs)) (hc : vwCl[ci]? = some (Cn, T, N)) (hst : st = As.reverse ++ .ref b :: rest) (hR : rm.frames + 1 ≤ R.frames ∧ 8 + (maxL + 11) + rm.locals ≤ R.locals) (hcat : (rest.map fun v => v.category).sum ≤ 8) (hfit : cells ≤ R.cells ∧ slots ≤ R.slots) (hro : rm.cells = 0 ∧ rm.slots = 0) (hq : pc + 3 = q)
    (kk : ∀ r τ, Qp r τ → zG p l e R s m args below meth c D cy A nL cells slots Q Z τ (q) lv (.int r :: rest)) : zG p l e R s m args below meth c D cy A nL cells slots Q Z S (pc) lv (st) := by
  subst hq
  intro H locs ls hP hD hS hl
  obtain ⟨j, hj⟩ := zget hb.1 hF
  have hA1 : ∀ q, zA cy Z S H.size q → A q := zA_sub C0.2.2.1 hD hS
  refine va_calli (va_runV (As := As) (rest := rest) C0.1 (hM H.size) (cwV As.length C0.1.2.2.2.2 hG hw rfl rfl hd hR) ⟨zPc_blind, va_recv C0.2.1.1 hP hc hj, fun U hU hW => ⟨rfl, by rw [hU], by rw [hU]; exact hP, hD.weaken (fun _ _ _ _ => trivial), C0.2.1.call hS hA1 hU hW⟩⟩ rfl rfl hl.1 hst (lv_room hcat) hdg ⟨by rw [hro.1]; exact hfit.1, by rw [hro.2]; exact hfit.2⟩) hS (fun q _ h => hA1 q h) hA1 (fun r u t H1 locs1 ht hvm hw hB hz1 hk1 hS1 => ?_)
  subst ht
  rw [hro.1, hro.2]
  exact kk r u hw _ locs1 ls hB.1 (hB.2.weaken (fun k x hk h => hA1 x.1 h)) hS1 hl
theorem zg_callSi (C0 : zC p s m args meth c cc nL Ts own D cy A rt) {ret : Option FieldType} {index maxL : Nat} {y : MethodName} {bytes : ByteArray} {ws ws' : List Cond} {rm : Room} (As rest : List Value) {Qp : Int32 → zS → Prop} (hdg : decode cc pc = .ok (.invokestatic index, 3)) (hM : ∀ sz, zMi l y ws rm D cy Z S sz (As) Qp) (hw : ws = Cond.code y bytes maxL ret :: ws') (hG : GoodIn Ts (va_wsS own index y ws)) (hd : y.cls ≠ "java/lang/invoke/MethodHandle" ∧ y.cls ≠ "java/lang/invoke/VarHandle" ∧ (parseMethodDescriptor y.desc).map (fun d => d.parameters.length) = some As.length) (hst : st = As.reverse ++ rest) (hR : rm.frames + 1 ≤ R.frames ∧ 8 + (maxL + 11) + rm.locals ≤ R.locals) (hcat : (rest.map fun v => v.category).sum ≤ 8) (hfit : cells ≤ R.cells ∧ slots ≤ R.slots) (hro : rm.cells = 0 ∧ rm.slots = 0) (hq : pc + 3 = q)
    (kk : ∀ r τ, Qp r τ → zG p l e R s m args below meth c D cy A nL cells slots Q Z τ (q) lv (.int r :: rest)) : zG p l e R s m args below meth c D cy A nL cells slots Q Z S (pc) lv (st) := by
  subst hq
  intro H locs ls hP hD hS hl
  have hA1 : ∀ q, zA cy Z S H.size q → A q := zA_sub C0.2.2.1 hD hS
  refine va_calli (va_runS (As := As) (rest := rest) C0.1 (hM H.size) (va_cwS As.length C0.1.2.2.2.2 hG hw rfl rfl hd hR) ⟨zPc_blind, fun U hU hW => ⟨rfl, by rw [hU], by rw [hU]; exact hP, hD.weaken (fun _ _ _ _ => trivial), C0.2.1.call hS hA1 hU hW⟩⟩ rfl rfl hl.1 hst (lv_room hcat) hdg ⟨by rw [hro.1]; exact hfit.1, by rw [hro.2]; exact hfit.2⟩) hS (fun q _ h => hA1 q h) hA1 (fun r u t H1 locs1 ht hvm hw hB hz1 hk1 hS1 => ?_)
  subst ht
  rw [hro.1, hro.2]
  exact kk r u hw _ locs1 ls hB.1 (hB.2.weaken (fun k x hk h => hA1 x.1 h)) hS1 hl
theorem zg_callSNi (C0 : zC p s m args meth c cc nL Ts own D cy A rt) {host : String} {ret : Option FieldType} {index maxL : Nat} {y : MethodName} {bytes : ByteArray} {ws ws' : List Cond} {rm : Room} (As rest : List Value) {Qp : Int32 → zS → Prop} (hdg : decode cc pc = .ok (.invokestatic index, 3)) (hM : ∀ sz, zMi l y ws rm D cy Z S sz (As) Qp) (hw : ws = Cond.code y bytes maxL ret :: ws') (hG : GoodIn Ts ws) (hd : y.cls ≠ "java/lang/invoke/MethodHandle" ∧ y.cls ≠ "java/lang/invoke/VarHandle" ∧ (parseMethodDescriptor y.desc).map (fun d => d.parameters.length) = some As.length) (hnest : Cond.methodLinkNest own index y host ∈ zBw) (hini : Cond.initialized y.cls ∈ Ts) (hsta : Cond.static y ∈ Ts) (hst : st = As.reverse ++ rest) (hR : rm.frames + 1 ≤ R.frames ∧ 8 + (maxL + 11) + rm.locals ≤ R.locals) (hcat : (rest.map fun v => v.category).sum ≤ 8) (hfit : cells ≤ R.cells ∧ slots ≤ R.slots) (hro : rm.cells = 0 ∧ rm.slots = 0) (hq : pc + 3 = q)
    (kk : ∀ r τ, Qp r τ → zG p l e R s m args below meth c D cy A nL cells slots Q Z τ (q) lv (.int r :: rest)) : zG p l e R s m args below meth c D cy A nL cells slots Q Z S (pc) lv (st) := by
  subst hq
  intro H locs ls hP hD hS hl
  have hA1 : ∀ q, zA cy Z S H.size q → A q := zA_sub C0.2.2.1 hD hS
  refine va_calli (va_runSN (As := As) (rest := rest) C0.1 (hM H.size) (⟨va_cnB As.length C0.1.2.2.2.2 hG hw rfl rfl (C0.2.1.2.1 _ hnest) (C0.1.2.2.2.2 _ hini) hd hR, C0.1.2.2.2.2 _ hsta, trivial⟩) ⟨zPc_blind, fun U hU hW => ⟨rfl, by rw [hU], by rw [hU]; exact hP, hD.weaken (fun _ _ _ _ => trivial), C0.2.1.call hS hA1 hU hW⟩⟩ rfl rfl hl.1 hst (lv_room hcat) hdg ⟨by rw [hro.1]; exact hfit.1, by rw [hro.2]; exact hfit.2⟩) hS (fun q _ h => hA1 q h) hA1 (fun r u t H1 locs1 ht hvm hw hB hz1 hk1 hS1 => ?_)
  subst ht
  rw [hro.1, hro.2]
  exact kk r u hw _ locs1 ls hB.1 (hB.2.weaken (fun k x hk h => hA1 x.1 h)) hS1 hl
def zMl (l : Launch) (y : MethodName) (ws : List Cond) (rm : Room) (D : va_G) (cy : Nat → ClassId) (Z : zZ) (S : zS) (sz : Nat) (av : List Value) (Qp : Int64 → zS → Prop) : Prop := Met l y ws rm (zPc D cy Z S sz av) (va_Ql Qp (zB D cy (zA cy Z S sz) Z) (zA cy Z S sz)) rm.cells rm.slots (zA cy Z S sz)
abbrev zQl (below : List Frame) (D : va_G) (cy : Nat → ClassId) (A : Nat → Prop) (Z : zZ) (Qp : Int64 → zS → Prop) (args : Array Value) (s : State) (mc ms : Nat) : State → Prop := MQ below (va_Ql Qp (zB D cy A Z) A) args s mc ms A
theorem zMl_of {y : MethodName} {ws ws' : List Cond} {rm : Room} {sz maxL : Nat} {av : List Value} {Qp : Int64 → zS → Prop} (hy : plainName y.cls = true) (hw : ws = Cond.code y cc maxL rt :: ws') (hlen : (lg_sl av).length ≤ maxL)
    (body : ∀ (p : Program) (e : Env) (s : State) (m : MethodId) (args : Array Value) (below : List Frame) (meth : Method) (c : Code) (A : Nat → Prop), zC p s m args meth c cc maxL ws y.cls D cy A rt → meth.name = y.name → zG p l e (headSpec ws rm).room s m args below meth c D cy A maxL 0 0 (zQl below D cy A Z Qp args s rm.cells rm.slots) Z S 0 (lv_args 0 av) []) : zMl l y ws rm D cy Z S sz av Qp := by
  refine Met.ofW (cc := cc) (maxL := maxL) (ret := rt) hy hw ?_
  intro p e s m args below meth c s₁ B hml hv
  obtain ⟨rfl, hsz, hP, hD0, hV⟩ := hv
  subst hsz
  have hts := atoms_spec (ws := ws) B.pre
  have hown : s.vm.findClass y.cls = some m.cls := findClass_of_methodNamed B.named
  have hl := lv_entry av (n := maxL) hlen
  rw [lg_entry_eq]
  exact body p e s m av.toArray below meth c (zA cy Z S s.heap.size) ⟨⟨B.exec, B.bytes, hml, hown, hts⟩, hV, fun q h => Or.inr h, B.returns, B.notSynchronized⟩ (name_of_methodNamed B.named B.method).1 s.heap [] _ hP hD0.self va_S.rf hl
theorem zg_callVl (C0 : zC p s m args meth c cc nL Ts own D cy A rt) {Cn : String} {T : u_T} {N ci : Nat} {fs : List Value} {b : Nat} {ret : Option FieldType} {index maxL : Nat} {y : MethodName} {bytes : ByteArray} {ws ws' : List Cond} {rm : Room} (As rest : List Value) {Qp : Int64 → zS → Prop} (hdg : decode cc pc = .ok (.invokevirtual index, 3)) (hM : ∀ sz, zMl l y ws rm D cy Z S sz (.ref b :: As) Qp) (hw : ws = Cond.code y bytes maxL ret :: ws') (hG : GoodIn Ts (wsV own index Cn y ws)) (hd : y.cls = Cn ∧ y.cls ≠ "java/lang/invoke/MethodHandle" ∧ y.cls ≠ "java/lang/invoke/VarHandle" ∧ (parseMethodDescriptor y.desc).map (fun d => d.parameters.length) = some As.length) (hb : zk Z b ci) (hF : zF cy Z S b = .inr (ci, fs)) (hc : vwCl[ci]? = some (Cn, T, N)) (hst : st = As.reverse ++ .ref b :: rest) (hR : rm.frames + 1 ≤ R.frames ∧ 8 + (maxL + 11) + rm.locals ≤ R.locals) (hcat : (rest.map fun v => v.category).sum ≤ 8) (hfit : cells ≤ R.cells ∧ slots ≤ R.slots) (hro : rm.cells = 0 ∧ rm.slots = 0) (hq : pc + 3 = q)
    (kk : ∀ r τ, Qp r τ → zG p l e R s m args below meth c D cy A nL cells slots Q Z τ (q) lv (.long r :: rest)) : zG p l e R s m args below meth c D cy A nL cells slots Q Z S (pc) lv (st) := by
  subst hq
  intro H locs ls hP hD hS hl
  obtain ⟨j, hj⟩ := zget hb.1 hF
  have hA1 : ∀ q, zA cy Z S H.size q → A q := zA_sub C0.2.2.1 hD hS
  refine va_calll (va_runV (As := As) (rest := rest) C0.1 (hM H.size) (cwV As.length C0.1.2.2.2.2 hG hw rfl rfl hd hR) ⟨zPc_blind, va_recv C0.2.1.1 hP hc hj, fun U hU hW => ⟨rfl, by rw [hU], by rw [hU]; exact hP, hD.weaken (fun _ _ _ _ => trivial), C0.2.1.call hS hA1 hU hW⟩⟩ rfl rfl hl.1 hst (lv_room hcat) hdg ⟨by rw [hro.1]; exact hfit.1, by rw [hro.2]; exact hfit.2⟩) hS (fun q _ h => hA1 q h) hA1 (fun r u t H1 locs1 ht hvm hw hB hz1 hk1 hS1 => ?_)
  subst ht
  rw [hro.1, hro.2]
  exact kk r u hw _ locs1 ls hB.1 (hB.2.weaken (fun k x hk h => hA1 x.1 h)) hS1 hl
theorem zg_callSl (C0 : zC p s m args meth c cc nL Ts own D cy A rt) {ret : Option FieldType} {index maxL : Nat} {y : MethodName} {bytes : ByteArray} {ws ws' : List Cond} {rm : Room} (As rest : List Value) {Qp : Int64 → zS → Prop} (hdg : decode cc pc = .ok (.invokestatic index, 3)) (hM : ∀ sz, zMl l y ws rm D cy Z S sz (As) Qp) (hw : ws = Cond.code y bytes maxL ret :: ws') (hG : GoodIn Ts (va_wsS own index y ws)) (hd : y.cls ≠ "java/lang/invoke/MethodHandle" ∧ y.cls ≠ "java/lang/invoke/VarHandle" ∧ (parseMethodDescriptor y.desc).map (fun d => d.parameters.length) = some As.length) (hst : st = As.reverse ++ rest) (hR : rm.frames + 1 ≤ R.frames ∧ 8 + (maxL + 11) + rm.locals ≤ R.locals) (hcat : (rest.map fun v => v.category).sum ≤ 8) (hfit : cells ≤ R.cells ∧ slots ≤ R.slots) (hro : rm.cells = 0 ∧ rm.slots = 0) (hq : pc + 3 = q)
    (kk : ∀ r τ, Qp r τ → zG p l e R s m args below meth c D cy A nL cells slots Q Z τ (q) lv (.long r :: rest)) : zG p l e R s m args below meth c D cy A nL cells slots Q Z S (pc) lv (st) := by
  subst hq
  intro H locs ls hP hD hS hl
  have hA1 : ∀ q, zA cy Z S H.size q → A q := zA_sub C0.2.2.1 hD hS
  refine va_calll (va_runS (As := As) (rest := rest) C0.1 (hM H.size) (va_cwS As.length C0.1.2.2.2.2 hG hw rfl rfl hd hR) ⟨zPc_blind, fun U hU hW => ⟨rfl, by rw [hU], by rw [hU]; exact hP, hD.weaken (fun _ _ _ _ => trivial), C0.2.1.call hS hA1 hU hW⟩⟩ rfl rfl hl.1 hst (lv_room hcat) hdg ⟨by rw [hro.1]; exact hfit.1, by rw [hro.2]; exact hfit.2⟩) hS (fun q _ h => hA1 q h) hA1 (fun r u t H1 locs1 ht hvm hw hB hz1 hk1 hS1 => ?_)
  subst ht
  rw [hro.1, hro.2]
  exact kk r u hw _ locs1 ls hB.1 (hB.2.weaken (fun k x hk h => hA1 x.1 h)) hS1 hl
theorem zg_callSNl (C0 : zC p s m args meth c cc nL Ts own D cy A rt) {host : String} {ret : Option FieldType} {index maxL : Nat} {y : MethodName} {bytes : ByteArray} {ws ws' : List Cond} {rm : Room} (As rest : List Value) {Qp : Int64 → zS → Prop} (hdg : decode cc pc = .ok (.invokestatic index, 3)) (hM : ∀ sz, zMl l y ws rm D cy Z S sz (As) Qp) (hw : ws = Cond.code y bytes maxL ret :: ws') (hG : GoodIn Ts ws) (hd : y.cls ≠ "java/lang/invoke/MethodHandle" ∧ y.cls ≠ "java/lang/invoke/VarHandle" ∧ (parseMethodDescriptor y.desc).map (fun d => d.parameters.length) = some As.length) (hnest : Cond.methodLinkNest own index y host ∈ zBw) (hini : Cond.initialized y.cls ∈ Ts) (hsta : Cond.static y ∈ Ts) (hst : st = As.reverse ++ rest) (hR : rm.frames + 1 ≤ R.frames ∧ 8 + (maxL + 11) + rm.locals ≤ R.locals) (hcat : (rest.map fun v => v.category).sum ≤ 8) (hfit : cells ≤ R.cells ∧ slots ≤ R.slots) (hro : rm.cells = 0 ∧ rm.slots = 0) (hq : pc + 3 = q)
    (kk : ∀ r τ, Qp r τ → zG p l e R s m args below meth c D cy A nL cells slots Q Z τ (q) lv (.long r :: rest)) : zG p l e R s m args below meth c D cy A nL cells slots Q Z S (pc) lv (st) := by
  subst hq
  intro H locs ls hP hD hS hl
  have hA1 : ∀ q, zA cy Z S H.size q → A q := zA_sub C0.2.2.1 hD hS
  refine va_calll (va_runSN (As := As) (rest := rest) C0.1 (hM H.size) (⟨va_cnB As.length C0.1.2.2.2.2 hG hw rfl rfl (C0.2.1.2.1 _ hnest) (C0.1.2.2.2.2 _ hini) hd hR, C0.1.2.2.2.2 _ hsta, trivial⟩) ⟨zPc_blind, fun U hU hW => ⟨rfl, by rw [hU], by rw [hU]; exact hP, hD.weaken (fun _ _ _ _ => trivial), C0.2.1.call hS hA1 hU hW⟩⟩ rfl rfl hl.1 hst (lv_room hcat) hdg ⟨by rw [hro.1]; exact hfit.1, by rw [hro.2]; exact hfit.2⟩) hS (fun q _ h => hA1 q h) hA1 (fun r u t H1 locs1 ht hvm hw hB hz1 hk1 hS1 => ?_)
  subst ht
  rw [hro.1, hro.2]
  exact kk r u hw _ locs1 ls hB.1 (hB.2.weaken (fun k x hk h => hA1 x.1 h)) hS1 hl
def zMq (l : Launch) (y : MethodName) (ws : List Cond) (rm : Room) (D : va_G) (cy : Nat → ClassId) (Z : zZ) (S : zS) (sz : Nat) (av : List Value) (Qp : Option Nat → zS → Prop) : Prop := Met l y ws rm (zPc D cy Z S sz av) (va_Qq Qp (zB D cy (zA cy Z S sz) Z) (zA cy Z S sz)) rm.cells rm.slots (zA cy Z S sz)
abbrev zQq (below : List Frame) (D : va_G) (cy : Nat → ClassId) (A : Nat → Prop) (Z : zZ) (Qp : Option Nat → zS → Prop) (args : Array Value) (s : State) (mc ms : Nat) : State → Prop := MQ below (va_Qq Qp (zB D cy A Z) A) args s mc ms A
theorem zMq_of {y : MethodName} {ws ws' : List Cond} {rm : Room} {sz maxL : Nat} {av : List Value} {Qp : Option Nat → zS → Prop} (hy : plainName y.cls = true) (hw : ws = Cond.code y cc maxL rt :: ws') (hlen : (lg_sl av).length ≤ maxL)
    (body : ∀ (p : Program) (e : Env) (s : State) (m : MethodId) (args : Array Value) (below : List Frame) (meth : Method) (c : Code) (A : Nat → Prop), zC p s m args meth c cc maxL ws y.cls D cy A rt → meth.name = y.name → zG p l e (headSpec ws rm).room s m args below meth c D cy A maxL 0 0 (zQq below D cy A Z Qp args s rm.cells rm.slots) Z S 0 (lv_args 0 av) []) : zMq l y ws rm D cy Z S sz av Qp := by
  refine Met.ofW (cc := cc) (maxL := maxL) (ret := rt) hy hw ?_
  intro p e s m args below meth c s₁ B hml hv
  obtain ⟨rfl, hsz, hP, hD0, hV⟩ := hv
  subst hsz
  have hts := atoms_spec (ws := ws) B.pre
  have hown : s.vm.findClass y.cls = some m.cls := findClass_of_methodNamed B.named
  have hl := lv_entry av (n := maxL) hlen
  rw [lg_entry_eq]
  exact body p e s m av.toArray below meth c (zA cy Z S s.heap.size) ⟨⟨B.exec, B.bytes, hml, hown, hts⟩, hV, fun q h => Or.inr h, B.returns, B.notSynchronized⟩ (name_of_methodNamed B.named B.method).1 s.heap [] _ hP hD0.self va_S.rf hl
theorem zg_callVq (C0 : zC p s m args meth c cc nL Ts own D cy A rt) {Cn : String} {T : u_T} {N ci : Nat} {fs : List Value} {b : Nat} {ret : Option FieldType} {index maxL : Nat} {y : MethodName} {bytes : ByteArray} {ws ws' : List Cond} {rm : Room} (As rest : List Value) {Qp : Option Nat → zS → Prop} (hdg : decode cc pc = .ok (.invokevirtual index, 3)) (hM : ∀ sz, zMq l y ws rm D cy Z S sz (.ref b :: As) Qp) (hw : ws = Cond.code y bytes maxL ret :: ws') (hG : GoodIn Ts (wsV own index Cn y ws)) (hd : y.cls = Cn ∧ y.cls ≠ "java/lang/invoke/MethodHandle" ∧ y.cls ≠ "java/lang/invoke/VarHandle" ∧ (parseMethodDescriptor y.desc).map (fun d => d.parameters.length) = some As.length) (hb : zk Z b ci) (hF : zF cy Z S b = .inr (ci, fs)) (hc : vwCl[ci]? = some (Cn, T, N)) (hst : st = As.reverse ++ .ref b :: rest) (hR : rm.frames + 1 ≤ R.frames ∧ 8 + (maxL + 11) + rm.locals ≤ R.locals) (hcat : (rest.map fun v => v.category).sum ≤ 8) (hfit : cells ≤ R.cells ∧ slots ≤ R.slots) (hro : rm.cells = 0 ∧ rm.slots = 0) (hq : pc + 3 = q)
    (kk : ∀ r τ, Qp r τ → zG p l e R s m args below meth c D cy A nL cells slots Q Z τ (q) lv (va_rf r :: rest)) : zG p l e R s m args below meth c D cy A nL cells slots Q Z S (pc) lv (st) := by
  subst hq
  intro H locs ls hP hD hS hl
  obtain ⟨j, hj⟩ := zget hb.1 hF
  have hA1 : ∀ q, zA cy Z S H.size q → A q := zA_sub C0.2.2.1 hD hS
  refine va_callq (va_runV (As := As) (rest := rest) C0.1 (hM H.size) (cwV As.length C0.1.2.2.2.2 hG hw rfl rfl hd hR) ⟨zPc_blind, va_recv C0.2.1.1 hP hc hj, fun U hU hW => ⟨rfl, by rw [hU], by rw [hU]; exact hP, hD.weaken (fun _ _ _ _ => trivial), C0.2.1.call hS hA1 hU hW⟩⟩ rfl rfl hl.1 hst (lv_room hcat) hdg ⟨by rw [hro.1]; exact hfit.1, by rw [hro.2]; exact hfit.2⟩) hS (fun q _ h => hA1 q h) hA1 (fun r u t H1 locs1 ht hvm hw hB hz1 hk1 hS1 => ?_)
  subst ht
  rw [hro.1, hro.2]
  exact kk r u hw _ locs1 ls hB.1 (hB.2.weaken (fun k x hk h => hA1 x.1 h)) hS1 hl
theorem zg_callSq (C0 : zC p s m args meth c cc nL Ts own D cy A rt) {ret : Option FieldType} {index maxL : Nat} {y : MethodName} {bytes : ByteArray} {ws ws' : List Cond} {rm : Room} (As rest : List Value) {Qp : Option Nat → zS → Prop} (hdg : decode cc pc = .ok (.invokestatic index, 3)) (hM : ∀ sz, zMq l y ws rm D cy Z S sz (As) Qp) (hw : ws = Cond.code y bytes maxL ret :: ws') (hG : GoodIn Ts (va_wsS own index y ws)) (hd : y.cls ≠ "java/lang/invoke/MethodHandle" ∧ y.cls ≠ "java/lang/invoke/VarHandle" ∧ (parseMethodDescriptor y.desc).map (fun d => d.parameters.length) = some As.length) (hst : st = As.reverse ++ rest) (hR : rm.frames + 1 ≤ R.frames ∧ 8 + (maxL + 11) + rm.locals ≤ R.locals) (hcat : (rest.map fun v => v.category).sum ≤ 8) (hfit : cells ≤ R.cells ∧ slots ≤ R.slots) (hro : rm.cells = 0 ∧ rm.slots = 0) (hq : pc + 3 = q)
    (kk : ∀ r τ, Qp r τ → zG p l e R s m args below meth c D cy A nL cells slots Q Z τ (q) lv (va_rf r :: rest)) : zG p l e R s m args below meth c D cy A nL cells slots Q Z S (pc) lv (st) := by
  subst hq
  intro H locs ls hP hD hS hl
  have hA1 : ∀ q, zA cy Z S H.size q → A q := zA_sub C0.2.2.1 hD hS
  refine va_callq (va_runS (As := As) (rest := rest) C0.1 (hM H.size) (va_cwS As.length C0.1.2.2.2.2 hG hw rfl rfl hd hR) ⟨zPc_blind, fun U hU hW => ⟨rfl, by rw [hU], by rw [hU]; exact hP, hD.weaken (fun _ _ _ _ => trivial), C0.2.1.call hS hA1 hU hW⟩⟩ rfl rfl hl.1 hst (lv_room hcat) hdg ⟨by rw [hro.1]; exact hfit.1, by rw [hro.2]; exact hfit.2⟩) hS (fun q _ h => hA1 q h) hA1 (fun r u t H1 locs1 ht hvm hw hB hz1 hk1 hS1 => ?_)
  subst ht
  rw [hro.1, hro.2]
  exact kk r u hw _ locs1 ls hB.1 (hB.2.weaken (fun k x hk h => hA1 x.1 h)) hS1 hl
theorem zg_callSNq (C0 : zC p s m args meth c cc nL Ts own D cy A rt) {host : String} {ret : Option FieldType} {index maxL : Nat} {y : MethodName} {bytes : ByteArray} {ws ws' : List Cond} {rm : Room} (As rest : List Value) {Qp : Option Nat → zS → Prop} (hdg : decode cc pc = .ok (.invokestatic index, 3)) (hM : ∀ sz, zMq l y ws rm D cy Z S sz (As) Qp) (hw : ws = Cond.code y bytes maxL ret :: ws') (hG : GoodIn Ts ws) (hd : y.cls ≠ "java/lang/invoke/MethodHandle" ∧ y.cls ≠ "java/lang/invoke/VarHandle" ∧ (parseMethodDescriptor y.desc).map (fun d => d.parameters.length) = some As.length) (hnest : Cond.methodLinkNest own index y host ∈ zBw) (hini : Cond.initialized y.cls ∈ Ts) (hsta : Cond.static y ∈ Ts) (hst : st = As.reverse ++ rest) (hR : rm.frames + 1 ≤ R.frames ∧ 8 + (maxL + 11) + rm.locals ≤ R.locals) (hcat : (rest.map fun v => v.category).sum ≤ 8) (hfit : cells ≤ R.cells ∧ slots ≤ R.slots) (hro : rm.cells = 0 ∧ rm.slots = 0) (hq : pc + 3 = q)
    (kk : ∀ r τ, Qp r τ → zG p l e R s m args below meth c D cy A nL cells slots Q Z τ (q) lv (va_rf r :: rest)) : zG p l e R s m args below meth c D cy A nL cells slots Q Z S (pc) lv (st) := by
  subst hq
  intro H locs ls hP hD hS hl
  have hA1 : ∀ q, zA cy Z S H.size q → A q := zA_sub C0.2.2.1 hD hS
  refine va_callq (va_runSN (As := As) (rest := rest) C0.1 (hM H.size) (⟨va_cnB As.length C0.1.2.2.2.2 hG hw rfl rfl (C0.2.1.2.1 _ hnest) (C0.1.2.2.2.2 _ hini) hd hR, C0.1.2.2.2.2 _ hsta, trivial⟩) ⟨zPc_blind, fun U hU hW => ⟨rfl, by rw [hU], by rw [hU]; exact hP, hD.weaken (fun _ _ _ _ => trivial), C0.2.1.call hS hA1 hU hW⟩⟩ rfl rfl hl.1 hst (lv_room hcat) hdg ⟨by rw [hro.1]; exact hfit.1, by rw [hro.2]; exact hfit.2⟩) hS (fun q _ h => hA1 q h) hA1 (fun r u t H1 locs1 ht hvm hw hB hz1 hk1 hS1 => ?_)
  subst ht
  rw [hro.1, hro.2]
  exact kk r u hw _ locs1 ls hB.1 (hB.2.weaken (fun k x hk h => hA1 x.1 h)) hS1 hl
theorem zg_vret (C0 : zC p s m args meth c cc nL Ts own D cy A rt) {mc ms : Nat} {Qp : zS → Prop} (hdg : decode cc pc = .ok (.return_, 1)) (hr : rt = none) (h1 : cells ≤ mc) (h2 : slots ≤ ms) (hQ : Qp S) : zG p l e R s m args below meth c D cy A nL cells slots (zQv below D cy A Z Qp args s mc ms) Z S (pc) lv [] := fun H locs ls hP hD hS hl => W.widen h1 h2 (W.vret C0.1.1 C0.1.2.1 (C0.2.2.2.1.trans hr) (fun t ht hW => ⟨⟨S, rfl, hQ, by rw [ht]; exact hP, hD⟩, hS.F ht⟩) hS.2.2 hdg C0.2.2.2.2)
theorem zg_iret (C0 : zC p s m args meth c cc nL Ts own D cy A rt) {mc ms : Nat} {v : Int32} {ty : FieldType} {Qp : Int32 → zS → Prop} (hdg : decode cc pc = .ok (.ireturn, 1)) (hr : rt = some ty) (hn : narrow ty (.int v) = .int v) (h1 : cells ≤ mc) (h2 : slots ≤ ms) (hQ : Qp v S) : zG p l e R s m args below meth c D cy A nL cells slots (zQi below D cy A Z Qp args s mc ms) Z S (pc) lv [.int v] := fun H locs ls hP hD hS hl => W.widen h1 h2 (W.zret C0.1.1 C0.1.2.1 (C0.2.2.2.1.trans hr) hn (fun t ht hW => ⟨⟨v, S, rfl, hQ, by rw [ht]; exact hP, hD⟩, hS.F ht⟩) hS.2.2 hdg C0.2.2.2.2)
theorem zg_lret (C0 : zC p s m args meth c cc nL Ts own D cy A rt) {mc ms : Nat} {v : Int64} {Qp : Int64 → zS → Prop} (hdg : decode cc pc = .ok (.lreturn, 1)) (hr : rt = some .long) (h1 : cells ≤ mc) (h2 : slots ≤ ms) (hQ : Qp v S) : zG p l e R s m args below meth c D cy A nL cells slots (zQl below D cy A Z Qp args s mc ms) Z S (pc) lv [.long v] := fun H locs ls hP hD hS hl => W.widen h1 h2 (W.lret C0.1.1 C0.1.2.1 (C0.2.2.2.1.trans hr) (fun t ht hW => ⟨⟨v, S, rfl, hQ, by rw [ht]; exact hP, hD⟩, hS.F ht⟩) hS.2.2 hdg C0.2.2.2.2)
theorem zg_aret (C0 : zC p s m args meth c cc nL Ts own D cy A rt) {mc ms : Nat} {v : Option Nat} {u : Value} {n : String} {Qp : Option Nat → zS → Prop} (hdg : decode cc pc = .ok (.areturn, 1)) (hr : rt = some (.object n)) (hu : va_rf v = u) (h1 : cells ≤ mc) (h2 : slots ≤ ms) (hQ : Qp v S) : zG p l e R s m args below meth c D cy A nL cells slots (zQq below D cy A Z Qp args s mc ms) Z S (pc) lv [u] := by
  subst hu
  exact fun H locs ls hP hD hS hl => W.widen h1 h2 (W.aret C0.1.1 C0.1.2.1 (C0.2.2.2.1.trans hr) (Or.inl ⟨n, rfl⟩) (va_rf_or v) (fun t ht hW => ⟨⟨v, S, rfl, hQ, by rw [ht]; exact hP, hD⟩, hS.F ht⟩) hS.2.2 hdg C0.2.2.2.2)
theorem zg_mmax (C0 : zC p s m args meth c cc nL Ts own D cy A rt) {index : Nat} {x y : Int32} (hdg : decode cc pc = .ok (.invokestatic index, 3)) (h1 : Cond.methodLink own index Lib.Math.max.name ∈ Ts) (h2 : Cond.static Lib.Math.max.name ∈ Ts) (h3 : Cond.initialized "java/lang/Math" ∈ Ts) (h4 : Cond.code Lib.Math.max.name Lib.Math.max.code 2 (some .int) ∈ Ts) (hf : 1 ≤ R.frames) (hlo : (st.map fun v => v.category).sum + 13 ≤ R.locals) (hro : cells ≤ R.cells ∧ slots ≤ R.slots) (hq : pc + 3 = q) (kk : zG p l e R s m args below meth c D cy A nL cells slots Q Z S (q) lv (.int (if x < y then y else x) :: st)) : zG p l e R s m args below meth c D cy A nL cells slots Q Z S (pc) lv (.int y :: .int x :: st) := by
  subst hq
  exact fun H locs ls hP hD hS hl => va_mmax C0.1.1 C0.1.2.1 (C0.1.2.2.1.trans hl.1.symm) C0.1.2.2.2.1 (C0.1.2.2.2.2 _ h1) (C0.1.2.2.2.2 _ h2) (C0.1.2.2.2.2 _ h3) (C0.1.2.2.2.2 _ h4) hf hlo hro.1 hro.2 hdg (kk H locs ls hP hD hS hl)
theorem zg_mmin (C0 : zC p s m args meth c cc nL Ts own D cy A rt) {index : Nat} {x y : Int32} (hdg : decode cc pc = .ok (.invokestatic index, 3)) (h1 : Cond.methodLink own index Lib.Math.min.name ∈ Ts) (h2 : Cond.static Lib.Math.min.name ∈ Ts) (h3 : Cond.initialized "java/lang/Math" ∈ Ts) (h4 : Cond.code Lib.Math.min.name Lib.Math.min.code 2 (some .int) ∈ Ts) (hf : 1 ≤ R.frames) (hlo : (st.map fun v => v.category).sum + 13 ≤ R.locals) (hro : cells ≤ R.cells ∧ slots ≤ R.slots) (hq : pc + 3 = q) (kk : zG p l e R s m args below meth c D cy A nL cells slots Q Z S (q) lv (.int (if y < x then y else x) :: st)) : zG p l e R s m args below meth c D cy A nL cells slots Q Z S (pc) lv (.int y :: .int x :: st) := by
  subst hq
  exact fun H locs ls hP hD hS hl => va_mmin C0.1.1 C0.1.2.1 (C0.1.2.2.1.trans hl.1.symm) C0.1.2.2.2.1 (C0.1.2.2.2.2 _ h1) (C0.1.2.2.2.2 _ h2) (C0.1.2.2.2.2 _ h3) (C0.1.2.2.2.2 _ h4) hf hlo hro.1 hro.2 hdg (kk H locs ls hP hD hS hl)
theorem zg_putI (C0 : zC p s m args meth c cc nL Ts own D cy A rt) {a ci N k index : Nat} {Cn ref : String} {T : u_T} {fs : List Value} {v : Int32} {ty0 : Nat → FieldType} (hdg : decode cc pc = .ok (.putfield index, 3)) (ha : zk Z a ci) (hF : zF cy Z S a = .inr (ci, fs)) (hc : vwCl[ci]? = some (Cn, T, N)) (hk : k < N) (hin : ∀ w ∈ u_ws Cn T N, w ∈ Ts) (hty : ∀ k, k < N → parseFieldDescriptor (T k).2.2.1 = some (ty0 k)) (hnm : ∀ a, a < N → ∀ b, b < N → a ≠ b → (T a).2.1 ≠ (T b).2.1) (hlink : Cond.fieldLink own index ref (T k).2.1 (T k).2.2.1 ∈ Ts) (href : (T k).1 = ref) (hfin : (T k).2.2.2 = false) (hn : narrow (ty0 k) (.int v) = .int v) (hfit : fits (ty0 k) (.int v) = true) (hl2 : k < fs.length) (he : zF cy Z (zsI S a k v) a = .inr (ci, zfs Z (zsI S a k v) a ci)) (hP : zfs Z (zsI S a k v) a ci = fs.set k (.int v)) (hq : pc + 3 = q) (kk : ∀ S' : zS, S' = zsI S a k v → zG p l e R s m args below meth c D cy A nL cells slots Q Z S' (q) lv (st)) : zG p l e R s m args below meth c D cy A nL cells slots Q Z S (pc) lv (.int v :: .ref a :: st) :=
  zg_put (Z' := Z) (S' := zsI S a k v) C0 hdg ha hF hc hk hin hty hnm hlink href (Or.inl hfin) hn hfit hl2 rfl (he.trans (by rw [hP])) (zF_offI cy Z S a k v) hq (kk _ rfl)
theorem zg_putJ (C0 : zC p s m args meth c cc nL Ts own D cy A rt) {a ci N k index : Nat} {Cn ref : String} {T : u_T} {fs : List Value} {v : Int64} {ty0 : Nat → FieldType} (hdg : decode cc pc = .ok (.putfield index, 3)) (ha : zk Z a ci) (hF : zF cy Z S a = .inr (ci, fs)) (hc : vwCl[ci]? = some (Cn, T, N)) (hk : k < N) (hin : ∀ w ∈ u_ws Cn T N, w ∈ Ts) (hty : ∀ k, k < N → parseFieldDescriptor (T k).2.2.1 = some (ty0 k)) (hnm : ∀ a, a < N → ∀ b, b < N → a ≠ b → (T a).2.1 ≠ (T b).2.1) (hlink : Cond.fieldLink own index ref (T k).2.1 (T k).2.2.1 ∈ Ts) (href : (T k).1 = ref) (hfin : (T k).2.2.2 = false) (hn : narrow (ty0 k) (.long v) = .long v) (hfit : fits (ty0 k) (.long v) = true) (hl2 : k < fs.length) (he : zF cy Z (zsJ S a k v) a = .inr (ci, zfs Z (zsJ S a k v) a ci)) (hP : zfs Z (zsJ S a k v) a ci = fs.set k (.long v)) (hq : pc + 3 = q) (kk : ∀ S' : zS, S' = zsJ S a k v → zG p l e R s m args below meth c D cy A nL cells slots Q Z S' (q) lv (st)) : zG p l e R s m args below meth c D cy A nL cells slots Q Z S (pc) lv (.long v :: .ref a :: st) :=
  zg_put (Z' := Z) (S' := zsJ S a k v) C0 hdg ha hF hc hk hin hty hnm hlink href (Or.inl hfin) hn hfit hl2 rfl (he.trans (by rw [hP])) (zF_offJ cy Z S a k v) hq (kk _ rfl)
theorem zg_putR (C0 : zC p s m args meth c cc nL Ts own D cy A rt) {a ci N k index : Nat} {Cn ref : String} {T : u_T} {fs : List Value} {v : Option Nat} {ty0 : Nat → FieldType} (hdg : decode cc pc = .ok (.putfield index, 3)) (ha : zk Z a ci) (hF : zF cy Z S a = .inr (ci, fs)) (hc : vwCl[ci]? = some (Cn, T, N)) (hk : k < N) (hin : ∀ w ∈ u_ws Cn T N, w ∈ Ts) (hty : ∀ k, k < N → parseFieldDescriptor (T k).2.2.1 = some (ty0 k)) (hnm : ∀ a, a < N → ∀ b, b < N → a ≠ b → (T a).2.1 ≠ (T b).2.1) (hlink : Cond.fieldLink own index ref (T k).2.1 (T k).2.2.1 ∈ Ts) (href : (T k).1 = ref) (hfin : (T k).2.2.2 = false) (hn : narrow (ty0 k) (va_rf v) = va_rf v) (hfit : fits (ty0 k) (va_rf v) = true) (hl2 : k < fs.length) (he : zF cy Z (zsR S a k v) a = .inr (ci, zfs Z (zsR S a k v) a ci)) (hP : zfs Z (zsR S a k v) a ci = fs.set k (va_rf v)) (hq : pc + 3 = q) (kk : ∀ S' : zS, S' = zsR S a k v → zG p l e R s m args below meth c D cy A nL cells slots Q Z S' (q) lv (st)) : zG p l e R s m args below meth c D cy A nL cells slots Q Z S (pc) lv (va_rf v :: .ref a :: st) :=
  zg_put (Z' := Z) (S' := zsR S a k v) C0 hdg ha hF hc hk hin hty hnm hlink href (Or.inl hfin) hn hfit hl2 rfl (he.trans (by rw [hP])) (zF_offR cy Z S a k v) hq (kk _ rfl)
theorem zg_nn {r : Option Nat} {b : Nat} (h : r = some b) (kk : zG p l e R s m args below meth c D cy A nL cells slots Q Z S (pc) lv (.ref b :: st)) : zG p l e R s m args below meth c D cy A nL cells slots Q Z S (pc) lv (va_rf r :: st) := by
  subst h
  exact kk
theorem zg_nq {r : Option Nat} (kk : ∀ y : Option Nat, y = r → zG p l e R s m args below meth c D cy A nL cells slots Q Z S (pc) lv (va_rf y :: st)) : zG p l e R s m args below meth c D cy A nL cells slots Q Z S (pc) lv (va_rf r :: st) := kk r rfl
end ZR
/-- a boolean's ints -/
def zb (v : Int32) : Prop := v = 0 ∨ v = 1
theorem zb_n {v : Int32} (h : zb v) : narrow .boolean (.int v) = .int v := by
  rcases h with rfl | rfl <;> decide
theorem zb_f {v : Int32} (h : zb v) : fits .boolean (.int v) = true := by
  rcases h with rfl | rfl <;> decide
theorem zb_v {v : Int32} (h : zb v) : vp_nar .boolean v = v := by
  rcases h with rfl | rfl <;> decide
/-- loops: a body, n times at most; and how one is shown to come to its end -/
def zit1 {T1 : Type} (f : (T1 → Prop) → T1 → Prop) : Nat → T1 → Prop
  | 0 => fun _ => False
  | n + 1 => f (zit1 f n)
theorem zlp1 {T1 : Type} {f : (T1 → Prop) → T1 → Prop} (Inv : T1 → Prop) (μ : T1 → Nat) (hs : ∀ (rec : T1 → Prop) (a1 : T1), Inv a1 → (∀ (b1 : T1), Inv b1 → μ b1 < μ a1 → rec b1) → f rec a1) (a1 : T1) (h : Inv a1) : ∃ n, zit1 f n a1 := by
  have key : ∀ (n : Nat) (a1 : T1), Inv a1 → μ a1 < n → zit1 f n a1 := by
    intro n
    induction n with
    | zero =>
      intro a1 _ hn
      exact absurd hn (Nat.not_lt_zero _)
    | succ n ih =>
      intro a1 hi hn
      exact hs (zit1 f n) a1 hi (fun b1 hi2 hlt => ih b1 hi2 (Nat.lt_of_lt_of_le hlt (Nat.le_of_lt_succ hn)))
  exact ⟨μ a1 + 1, key _ a1 h (Nat.lt_succ_self _)⟩
def zit2 {T1 T2 : Type} (f : (T1 → T2 → Prop) → T1 → T2 → Prop) : Nat → T1 → T2 → Prop
  | 0 => fun _ _ => False
  | n + 1 => f (zit2 f n)
theorem zlp2 {T1 T2 : Type} {f : (T1 → T2 → Prop) → T1 → T2 → Prop} (Inv : T1 → T2 → Prop) (μ : T1 → T2 → Nat) (hs : ∀ (rec : T1 → T2 → Prop) (a1 : T1) (a2 : T2), Inv a1 a2 → (∀ (b1 : T1) (b2 : T2), Inv b1 b2 → μ b1 b2 < μ a1 a2 → rec b1 b2) → f rec a1 a2) (a1 : T1) (a2 : T2) (h : Inv a1 a2) : ∃ n, zit2 f n a1 a2 := by
  have key : ∀ (n : Nat) (a1 : T1) (a2 : T2), Inv a1 a2 → μ a1 a2 < n → zit2 f n a1 a2 := by
    intro n
    induction n with
    | zero =>
      intro a1 a2 _ hn
      exact absurd hn (Nat.not_lt_zero _)
    | succ n ih =>
      intro a1 a2 hi hn
      exact hs (zit2 f n) a1 a2 hi (fun b1 b2 hi2 hlt => ih b1 b2 hi2 (Nat.lt_of_lt_of_le hlt (Nat.le_of_lt_succ hn)))
  exact ⟨μ a1 a2 + 1, key _ a1 a2 h (Nat.lt_succ_self _)⟩
def zit3 {T1 T2 T3 : Type} (f : (T1 → T2 → T3 → Prop) → T1 → T2 → T3 → Prop) : Nat → T1 → T2 → T3 → Prop
  | 0 => fun _ _ _ => False
  | n + 1 => f (zit3 f n)
theorem zlp3 {T1 T2 T3 : Type} {f : (T1 → T2 → T3 → Prop) → T1 → T2 → T3 → Prop} (Inv : T1 → T2 → T3 → Prop) (μ : T1 → T2 → T3 → Nat) (hs : ∀ (rec : T1 → T2 → T3 → Prop) (a1 : T1) (a2 : T2) (a3 : T3), Inv a1 a2 a3 → (∀ (b1 : T1) (b2 : T2) (b3 : T3), Inv b1 b2 b3 → μ b1 b2 b3 < μ a1 a2 a3 → rec b1 b2 b3) → f rec a1 a2 a3) (a1 : T1) (a2 : T2) (a3 : T3) (h : Inv a1 a2 a3) : ∃ n, zit3 f n a1 a2 a3 := by
  have key : ∀ (n : Nat) (a1 : T1) (a2 : T2) (a3 : T3), Inv a1 a2 a3 → μ a1 a2 a3 < n → zit3 f n a1 a2 a3 := by
    intro n
    induction n with
    | zero =>
      intro a1 a2 a3 _ hn
      exact absurd hn (Nat.not_lt_zero _)
    | succ n ih =>
      intro a1 a2 a3 hi hn
      exact hs (zit3 f n) a1 a2 a3 hi (fun b1 b2 b3 hi2 hlt => ih b1 b2 b3 hi2 (Nat.lt_of_lt_of_le hlt (Nat.le_of_lt_succ hn)))
  exact ⟨μ a1 a2 a3 + 1, key _ a1 a2 a3 h (Nat.lt_succ_self _)⟩
def zit4 {T1 T2 T3 T4 : Type} (f : (T1 → T2 → T3 → T4 → Prop) → T1 → T2 → T3 → T4 → Prop) : Nat → T1 → T2 → T3 → T4 → Prop
  | 0 => fun _ _ _ _ => False
  | n + 1 => f (zit4 f n)
theorem zlp4 {T1 T2 T3 T4 : Type} {f : (T1 → T2 → T3 → T4 → Prop) → T1 → T2 → T3 → T4 → Prop} (Inv : T1 → T2 → T3 → T4 → Prop) (μ : T1 → T2 → T3 → T4 → Nat) (hs : ∀ (rec : T1 → T2 → T3 → T4 → Prop) (a1 : T1) (a2 : T2) (a3 : T3) (a4 : T4), Inv a1 a2 a3 a4 → (∀ (b1 : T1) (b2 : T2) (b3 : T3) (b4 : T4), Inv b1 b2 b3 b4 → μ b1 b2 b3 b4 < μ a1 a2 a3 a4 → rec b1 b2 b3 b4) → f rec a1 a2 a3 a4) (a1 : T1) (a2 : T2) (a3 : T3) (a4 : T4) (h : Inv a1 a2 a3 a4) : ∃ n, zit4 f n a1 a2 a3 a4 := by
  have key : ∀ (n : Nat) (a1 : T1) (a2 : T2) (a3 : T3) (a4 : T4), Inv a1 a2 a3 a4 → μ a1 a2 a3 a4 < n → zit4 f n a1 a2 a3 a4 := by
    intro n
    induction n with
    | zero =>
      intro a1 a2 a3 a4 _ hn
      exact absurd hn (Nat.not_lt_zero _)
    | succ n ih =>
      intro a1 a2 a3 a4 hi hn
      exact hs (zit4 f n) a1 a2 a3 a4 hi (fun b1 b2 b3 b4 hi2 hlt => ih b1 b2 b3 b4 hi2 (Nat.lt_of_lt_of_le hlt (Nat.le_of_lt_succ hn)))
  exact ⟨μ a1 a2 a3 a4 + 1, key _ a1 a2 a3 a4 h (Nat.lt_succ_self _)⟩
def zit5 {T1 T2 T3 T4 T5 : Type} (f : (T1 → T2 → T3 → T4 → T5 → Prop) → T1 → T2 → T3 → T4 → T5 → Prop) : Nat → T1 → T2 → T3 → T4 → T5 → Prop
  | 0 => fun _ _ _ _ _ => False
  | n + 1 => f (zit5 f n)
theorem zlp5 {T1 T2 T3 T4 T5 : Type} {f : (T1 → T2 → T3 → T4 → T5 → Prop) → T1 → T2 → T3 → T4 → T5 → Prop} (Inv : T1 → T2 → T3 → T4 → T5 → Prop) (μ : T1 → T2 → T3 → T4 → T5 → Nat) (hs : ∀ (rec : T1 → T2 → T3 → T4 → T5 → Prop) (a1 : T1) (a2 : T2) (a3 : T3) (a4 : T4) (a5 : T5), Inv a1 a2 a3 a4 a5 → (∀ (b1 : T1) (b2 : T2) (b3 : T3) (b4 : T4) (b5 : T5), Inv b1 b2 b3 b4 b5 → μ b1 b2 b3 b4 b5 < μ a1 a2 a3 a4 a5 → rec b1 b2 b3 b4 b5) → f rec a1 a2 a3 a4 a5) (a1 : T1) (a2 : T2) (a3 : T3) (a4 : T4) (a5 : T5) (h : Inv a1 a2 a3 a4 a5) : ∃ n, zit5 f n a1 a2 a3 a4 a5 := by
  have key : ∀ (n : Nat) (a1 : T1) (a2 : T2) (a3 : T3) (a4 : T4) (a5 : T5), Inv a1 a2 a3 a4 a5 → μ a1 a2 a3 a4 a5 < n → zit5 f n a1 a2 a3 a4 a5 := by
    intro n
    induction n with
    | zero =>
      intro a1 a2 a3 a4 a5 _ hn
      exact absurd hn (Nat.not_lt_zero _)
    | succ n ih =>
      intro a1 a2 a3 a4 a5 hi hn
      exact hs (zit5 f n) a1 a2 a3 a4 a5 hi (fun b1 b2 b3 b4 b5 hi2 hlt => ih b1 b2 b3 b4 b5 hi2 (Nat.lt_of_lt_of_le hlt (Nat.le_of_lt_succ hn)))
  exact ⟨μ a1 a2 a3 a4 a5 + 1, key _ a1 a2 a3 a4 a5 h (Nat.lt_succ_self _)⟩
def zit6 {T1 T2 T3 T4 T5 T6 : Type} (f : (T1 → T2 → T3 → T4 → T5 → T6 → Prop) → T1 → T2 → T3 → T4 → T5 → T6 → Prop) : Nat → T1 → T2 → T3 → T4 → T5 → T6 → Prop
  | 0 => fun _ _ _ _ _ _ => False
  | n + 1 => f (zit6 f n)
theorem zlp6 {T1 T2 T3 T4 T5 T6 : Type} {f : (T1 → T2 → T3 → T4 → T5 → T6 → Prop) → T1 → T2 → T3 → T4 → T5 → T6 → Prop} (Inv : T1 → T2 → T3 → T4 → T5 → T6 → Prop) (μ : T1 → T2 → T3 → T4 → T5 → T6 → Nat) (hs : ∀ (rec : T1 → T2 → T3 → T4 → T5 → T6 → Prop) (a1 : T1) (a2 : T2) (a3 : T3) (a4 : T4) (a5 : T5) (a6 : T6), Inv a1 a2 a3 a4 a5 a6 → (∀ (b1 : T1) (b2 : T2) (b3 : T3) (b4 : T4) (b5 : T5) (b6 : T6), Inv b1 b2 b3 b4 b5 b6 → μ b1 b2 b3 b4 b5 b6 < μ a1 a2 a3 a4 a5 a6 → rec b1 b2 b3 b4 b5 b6) → f rec a1 a2 a3 a4 a5 a6) (a1 : T1) (a2 : T2) (a3 : T3) (a4 : T4) (a5 : T5) (a6 : T6) (h : Inv a1 a2 a3 a4 a5 a6) : ∃ n, zit6 f n a1 a2 a3 a4 a5 a6 := by
  have key : ∀ (n : Nat) (a1 : T1) (a2 : T2) (a3 : T3) (a4 : T4) (a5 : T5) (a6 : T6), Inv a1 a2 a3 a4 a5 a6 → μ a1 a2 a3 a4 a5 a6 < n → zit6 f n a1 a2 a3 a4 a5 a6 := by
    intro n
    induction n with
    | zero =>
      intro a1 a2 a3 a4 a5 a6 _ hn
      exact absurd hn (Nat.not_lt_zero _)
    | succ n ih =>
      intro a1 a2 a3 a4 a5 a6 hi hn
      exact hs (zit6 f n) a1 a2 a3 a4 a5 a6 hi (fun b1 b2 b3 b4 b5 b6 hi2 hlt => ih b1 b2 b3 b4 b5 b6 hi2 (Nat.lt_of_lt_of_le hlt (Nat.le_of_lt_succ hn)))
  exact ⟨μ a1 a2 a3 a4 a5 a6 + 1, key _ a1 a2 a3 a4 a5 a6 h (Nat.lt_succ_self _)⟩
def zit7 {T1 T2 T3 T4 T5 T6 T7 : Type} (f : (T1 → T2 → T3 → T4 → T5 → T6 → T7 → Prop) → T1 → T2 → T3 → T4 → T5 → T6 → T7 → Prop) : Nat → T1 → T2 → T3 → T4 → T5 → T6 → T7 → Prop
  | 0 => fun _ _ _ _ _ _ _ => False
  | n + 1 => f (zit7 f n)
theorem zlp7 {T1 T2 T3 T4 T5 T6 T7 : Type} {f : (T1 → T2 → T3 → T4 → T5 → T6 → T7 → Prop) → T1 → T2 → T3 → T4 → T5 → T6 → T7 → Prop} (Inv : T1 → T2 → T3 → T4 → T5 → T6 → T7 → Prop) (μ : T1 → T2 → T3 → T4 → T5 → T6 → T7 → Nat) (hs : ∀ (rec : T1 → T2 → T3 → T4 → T5 → T6 → T7 → Prop) (a1 : T1) (a2 : T2) (a3 : T3) (a4 : T4) (a5 : T5) (a6 : T6) (a7 : T7), Inv a1 a2 a3 a4 a5 a6 a7 → (∀ (b1 : T1) (b2 : T2) (b3 : T3) (b4 : T4) (b5 : T5) (b6 : T6) (b7 : T7), Inv b1 b2 b3 b4 b5 b6 b7 → μ b1 b2 b3 b4 b5 b6 b7 < μ a1 a2 a3 a4 a5 a6 a7 → rec b1 b2 b3 b4 b5 b6 b7) → f rec a1 a2 a3 a4 a5 a6 a7) (a1 : T1) (a2 : T2) (a3 : T3) (a4 : T4) (a5 : T5) (a6 : T6) (a7 : T7) (h : Inv a1 a2 a3 a4 a5 a6 a7) : ∃ n, zit7 f n a1 a2 a3 a4 a5 a6 a7 := by
  have key : ∀ (n : Nat) (a1 : T1) (a2 : T2) (a3 : T3) (a4 : T4) (a5 : T5) (a6 : T6) (a7 : T7), Inv a1 a2 a3 a4 a5 a6 a7 → μ a1 a2 a3 a4 a5 a6 a7 < n → zit7 f n a1 a2 a3 a4 a5 a6 a7 := by
    intro n
    induction n with
    | zero =>
      intro a1 a2 a3 a4 a5 a6 a7 _ hn
      exact absurd hn (Nat.not_lt_zero _)
    | succ n ih =>
      intro a1 a2 a3 a4 a5 a6 a7 hi hn
      exact hs (zit7 f n) a1 a2 a3 a4 a5 a6 a7 hi (fun b1 b2 b3 b4 b5 b6 b7 hi2 hlt => ih b1 b2 b3 b4 b5 b6 b7 hi2 (Nat.lt_of_lt_of_le hlt (Nat.le_of_lt_succ hn)))
  exact ⟨μ a1 a2 a3 a4 a5 a6 a7 + 1, key _ a1 a2 a3 a4 a5 a6 a7 h (Nat.lt_succ_self _)⟩
