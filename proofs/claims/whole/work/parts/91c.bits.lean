/-! bits (the family bt and nx of the kit's BITS, pasted), then masks -/
def bt (x : Int32) (i : Nat) : Bool := x.toBitVec.getLsbD i
theorem b_ext {x y : Int32} (h : ∀ i, i < 32 → bt x i = bt y i) : x = y := Int32.toBitVec_inj.mp (BitVec.eq_of_getLsbD_eq (fun i hi => h i hi))
theorem b_or (x y : Int32) (i : Nat) : bt (x ||| y) i = (bt x i || bt y i) := by unfold bt; rw [Int32.toBitVec_or, BitVec.getLsbD_or]
theorem b_and (x y : Int32) (i : Nat) : bt (x &&& y) i = (bt x i && bt y i) := by unfold bt; rw [Int32.toBitVec_and, BitVec.getLsbD_and]
theorem b_xor (x y : Int32) (i : Nat) : bt (x ^^^ y) i = (bt x i ^^ bt y i) := by unfold bt; rw [Int32.toBitVec_xor, BitVec.getLsbD_xor]
theorem b_big {x : Int32} {i : Nat} (h : 32 ≤ i) : bt x i = false := BitVec.getLsbD_of_ge _ _ h
theorem b_m1 : ∀ i, i < 32 → bt (-1) i = true := by decide +kernel
theorem b_0 (i : Nat) : bt 0 i = false := BitVec.getLsbD_zero
theorem s_l : ∀ n, n < 32 → ((nI n &&& 31).toBitVec.smod 32).toNat = n := by decide +kernel
theorem b_shl (n : Nat) (hn : n < 32) (x : Int32) {i : Nat} (hi : i < 32) : bt (x <<< (nI n &&& 31)) i = (decide (n ≤ i) && bt x (i - n)) := by
  unfold bt
  rw [Int32.toBitVec_shiftLeft]
  show (x.toBitVec <<< ((nI n &&& 31).toBitVec.smod 32).toNat).getLsbD i = _
  rw [s_l n hn, BitVec.getLsbD_shiftLeft]
  rcases Nat.lt_or_ge i n with h | h
  · simp [h, Nat.not_le.mpr h]
  · simp [hi, h, Nat.not_lt.mpr h]
theorem b_sshr (n : Nat) (hn : n < 32) (x : Int32) {i : Nat} (hi : i < 32) : bt (x >>> (nI n &&& 31)) i = if n + i < 32 then bt x (n + i) else bt x 31 := by
  unfold bt
  rw [Int32.toBitVec_shiftRight]
  show (x.toBitVec.sshiftRight ((nI n &&& 31).toBitVec.smod 32).toNat).getLsbD i = _
  rw [s_l n hn, BitVec.getLsbD_sshiftRight, BitVec.msb_eq_getLsbD_last]
  simp [hi]
theorem nx_and (a b : Nat) : nI a &&& nI b = nI (a &&& b) := by
  apply Int32.toBitVec_inj.1
  show BitVec.ofNat 32 a &&& BitVec.ofNat 32 b = BitVec.ofNat 32 (a &&& b)
  apply BitVec.eq_of_getLsbD_eq
  intro i hi
  simp [hi]
theorem nx_xor (a b : Nat) : nI a ^^^ nI b = nI (a ^^^ b) := by
  apply Int32.toBitVec_inj.1
  show BitVec.ofNat 32 a ^^^ BitVec.ofNat 32 b = BitVec.ofNat 32 (a ^^^ b)
  apply BitVec.eq_of_getLsbD_eq
  intro i hi
  simp [hi]
theorem nx_or (a b : Nat) : nI a ||| nI b = nI (a ||| b) := by
  apply Int32.toBitVec_inj.1
  show BitVec.ofNat 32 a ||| BitVec.ofNat 32 b = BitVec.ofNat 32 (a ||| b)
  apply BitVec.eq_of_getLsbD_eq
  intro i hi
  simp [hi]
theorem bt_nI (s : Nat) {i : Nat} (hi : i < 32) : bt (nI s) i = s.testBit i := by
  show (BitVec.ofNat 32 s).getLsbD i = _
  rw [BitVec.getLsbD_ofNat]
  simp [hi]
theorem bt_1 : ∀ i, i < 32 → bt 1 i = decide (i = 0) := by decide +kernel
theorem bt_one (i : Nat) (hi : i < 32) {j : Nat} (hj : j < 32) : bt (1 <<< (nI i &&& 31)) j = decide (j = i) := by
  rw [b_shl i hi 1 hj, bt_1 _ (by omega)]
  by_cases h : j = i
  · subst h; simp
  · by_cases h2 : i ≤ j
    · have : ¬ j - i = 0 := by omega
      simp [h, this]
    · simp [h, h2]
theorem isc (x : Int32) {i : Nat} (hi : i < 32) : (x &&& (1 <<< (nI i &&& 31))) = 0 ↔ bt x i = false := by
  constructor
  · intro h
    have := congrArg (fun y => bt y i) h
    simpa [b_and, bt_one i hi hi, b_0] using this
  · intro h
    refine b_ext (fun j hj => ?_)
    rw [b_and, bt_one i hi hj, b_0]
    by_cases e : j = i
    · subst e; simp [h]
    · simp [e]
theorem ism (x : Int32) {i : Nat} (hi : i < 32) : ((x >>> (nI i &&& 31)) &&& 1) = 1 ↔ bt x i = true := by
  have hb : ∀ j, j < 32 → bt ((x >>> (nI i &&& 31)) &&& 1) j = (bt x i && decide (j = 0)) := fun j hj => by
    rw [b_and, b_sshr i hi x hj, bt_1 j hj]
    by_cases e : j = 0
    · subst e; simp [hi]
    · simp [e]
  constructor
  · intro h
    have := hb 0 (by omega)
    rw [h, bt_1 0 (by omega)] at this
    simpa using this.symm
  · intro h
    refine b_ext (fun j hj => ?_)
    rw [hb j hj, h, bt_1 j hj]
    simp
theorem ism0 (x : Int32) {i : Nat} (hi : i < 32) : ((x >>> (nI i &&& 31)) &&& 1) = nI (if bt x i then 1 else 0) := by
  refine b_ext (fun j hj => ?_)
  rw [b_and, b_sshr i hi x hj, bt_1 j hj]
  by_cases e : j = 0
  · subst e
    by_cases h : bt x i = true
    · simp [hi, h]; rfl
    · simp [hi, h]; rfl
  · by_cases h : bt x i = true
    · rw [if_pos h]
      have e1 : bt (nI 1) j = decide (j = 0) := bt_1 j hj
      rw [e1]
      simp [e]
    · rw [if_neg h, bt_nI _ hj]
      simp [e]
theorem bt_not (x : Int32) {i : Nat} (hi : i < 32) : bt (x ^^^ (-1)) i = !bt x i := by
  rw [b_xor, b_m1 i hi]
  simp
theorem one_shl : ∀ i, i < 31 → (1 : Int32) <<< (nI i &&& 31) = nI (2 ^ i) := by decide +kernel
/-- the mask of those below n of whom P says so -/
def mk (P : Nat → Bool) : Nat → Nat
  | 0 => 0
  | n + 1 => if P n then mk P n ||| 2 ^ n else mk P n
theorem mk_bit (P : Nat → Bool) (n i : Nat) : (mk P n).testBit i = (decide (i < n) && P i) := by
  induction n with
  | zero => simp [mk]
  | succ n ih =>
    unfold mk
    by_cases h : P n = true
    · rw [if_pos h, Nat.testBit_or, ih, Nat.testBit_two_pow]
      by_cases e : i = n
      · subst e; simp [h]
      · have : ¬ n = i := fun q => e q.symm
        by_cases e2 : i < n
        · have : i < n + 1 := by omega
          simp [*]
        · have : ¬ i < n + 1 := by omega
          simp [*]
    · rw [if_neg h, ih]
      by_cases e : i = n
      · subst e; simp [h]
      · by_cases e2 : i < n
        · have : i < n + 1 := by omega
          simp [*]
        · have : ¬ i < n + 1 := by omega
          simp [*]
theorem mk_lt (P : Nat → Bool) (n : Nat) : mk P n < 2 ^ n := by
  induction n with
  | zero => simp [mk]
  | succ n ih =>
    unfold mk
    have e : 2 ^ (n + 1) = 2 ^ n * 2 := Nat.pow_succ ..
    by_cases h : P n = true
    · rw [if_pos h]
      exact Nat.or_lt_two_pow (by omega) (by omega)
    · rw [if_neg h]; omega
theorem mk_lt8 (P : Nat → Bool) {n : Nat} (h : n ≤ 8) : mk P n < 256 := Nat.lt_of_lt_of_le (mk_lt P n) (Nat.pow_le_pow_right (by omega) h)
theorem mk_s1 {P : Nat → Bool} {k : Nat} (hk : k < 31) (h : P k = true) : nI (mk P k) ||| (1 <<< (nI k &&& 31)) = nI (mk P (k + 1)) := by
  rw [one_shl k hk, nx_or]
  show _ = nI (if P k then _ else _)
  rw [if_pos h]
theorem mk_s0 {P : Nat → Bool} {k : Nat} (h : P k = false) : mk P (k + 1) = mk P k := by
  show (if P k then _ else _) = _
  rw [if_neg (by simp [h])]
/-- a mask below 2^n is the mask of its bits -/
theorem mk_self {s n : Nat} (h : s < 2 ^ n) : mk (fun i => s.testBit i) n = s := by
  refine Nat.eq_of_testBit_eq (fun i => ?_)
  rw [mk_bit]
  by_cases e : i < n
  · simp [e]
  · have : s.testBit i = false := Nat.testBit_lt_two_pow (Nat.lt_of_lt_of_le h (Nat.pow_le_pow_right (by omega) (by omega)))
    simp [this]
theorem mk_ext {P Q : Nat → Bool} {n : Nat} (h : ∀ i, i < n → P i = Q i) : mk P n = mk Q n := by
  refine Nat.eq_of_testBit_eq (fun i => ?_)
  rw [mk_bit, mk_bit]
  by_cases e : i < n
  · rw [h i e]
  · simp [e]
theorem mask_hi {s n i : Nat} (h : s < 2 ^ n) (hi : n ≤ i) : s.testBit i = false := Nat.testBit_lt_two_pow (Nat.lt_of_lt_of_le h (Nat.pow_le_pow_right (by omega) hi))
/-- the least of a mask below 256 (8: of none) -/
def lsf (s : Nat) : Nat → Nat
  | 0 => 8
  | k + 1 => if s.testBit (7 - k) then 7 - k else lsf s k
def ls (s : Nat) : Nat := lsf s 8
theorem lsf_spec (s : Nat) : ∀ k, k ≤ 8 → (∀ i, 8 - k ≤ i → i < lsf s k → s.testBit i = false) ∧ (lsf s k < 8 → s.testBit (lsf s k) = true) ∧ lsf s k ≤ 8 ∧ 8 - k ≤ lsf s k := by
  intro k
  induction k with
  | zero => intro _; exact ⟨fun i h1 h2 => by simp [lsf] at h2; omega, fun h => by simp [lsf] at h, by simp [lsf], by simp [lsf]⟩
  | succ k ih =>
    intro hk
    obtain ⟨a, b, c, d⟩ := ih (by omega)
    unfold lsf
    by_cases h : s.testBit (7 - k) = true
    · rw [if_pos h]
      exact ⟨fun i h1 h2 => by omega, fun _ => h, by omega, by omega⟩
    · rw [if_neg h]
      refine ⟨fun i h1 h2 => ?_, b, c, by omega⟩
      by_cases e : i = 7 - k
      · subst e; simpa using h
      · exact a i (by omega) h2
theorem ls_bit {s : Nat} (h : ls s < 8) : s.testBit (ls s) = true := (lsf_spec s 8 (by omega)).2.1 h
theorem ls_low {s i : Nat} (h : i < ls s) : s.testBit i = false := (lsf_spec s 8 (by omega)).1 i (by omega) h
theorem ls_le (s : Nat) : ls s ≤ 8 := (lsf_spec s 8 (by omega)).2.2.1
theorem ls_lt {s n : Nat} (hs : s < 2 ^ n) (hn : n ≤ 8) (h0 : s ≠ 0) : ls s < n := by
  have : ls s < 8 := Nat.lt_of_not_le (fun h => h0 (Nat.eq_of_testBit_eq (fun i => by
    rw [Nat.zero_testBit]
    by_cases e : i < 8
    · exact ls_low (by omega)
    · exact mask_hi hs (by omega))))
  exact Nat.lt_of_not_le (fun h => by
    have := ls_bit this
    rw [mask_hi hs h] at this
    exact Bool.noConfusion this)
theorem ls_uniq {s i : Nat} (hi : i < 8) (h : s.testBit i = true) (hl : ∀ j, j < i → s.testBit j = false) : ls s = i := by
  rcases Nat.lt_trichotomy (ls s) i with h1 | h1 | h1
  · have := ls_bit (s := s) (by omega)
    rw [hl _ h1] at this
    exact Bool.noConfusion this
  · exact h1
  · rw [ls_low h1] at h
    exact Bool.noConfusion h
/-- how many a mask below 256 has -/
def cntf (s : Nat) : Nat → Nat
  | 0 => 0
  | k + 1 => cntf s k + if s.testBit k then 1 else 0
def cnt (s : Nat) : Nat := cntf s 8
theorem cntf_le (s : Nat) : ∀ k, cntf s k ≤ k := by
  intro k
  induction k with
  | zero => exact Nat.le_refl 0
  | succ k ih => unfold cntf; split <;> omega
