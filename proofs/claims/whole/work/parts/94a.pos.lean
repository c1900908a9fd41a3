/-! WHAT IS MADE, by the order in which it is made: zPa Z p is the p-th cell -/
def zPa (Z : zZ) (p : Nat) : Nat := (zL Z).getD p 0
def zPm (Z : zZ) : Nat := (zL Z).length
def zok (Z : zZ) : Prop := ∀ p p', p < zPm Z → p' < zPm Z → zPa Z p = zPa Z p' → p = p'
abbrev zrc : Type := ((Nat × Nat) × (Nat → Option Nat)) × (Nat → Int32) × (Nat → Int64) × (Nat → Option Nat)
/-- all that is said of a cell -/
def zO (Z : zZ) (S : zS) (a : Nat) : zrc := (((zK Z a, zN Z a), zQ Z a), zI S a, zJ S a, zR S a)
def zr0 (k n : Nat) : zrc := (((k, n), fun _ => none), fun _ => 0, fun _ => 0, fun _ => none)
def zOb (Z : zZ) (S : zS) (p : Nat) (r : zrc) : Prop := p < zPm Z ∧ zO Z S (zPa Z p) = r
/-- (Z, S) has become (Z', S'): only the cell at h has changed -/
def zX (h : Nat) (Z Z' : zZ) (S S' : zS) : Prop := zPm Z ≤ zPm Z' ∧ ∀ p, p < zPm Z → zPa Z' p = zPa Z p ∧ (p ≠ h → zO Z' S' (zPa Z p) = zO Z S (zPa Z p))
theorem zX_rf (h : Nat) (Z : zZ) (S : zS) : zX h Z Z S S := ⟨Nat.le_refl _, fun _ _ => ⟨rfl, fun _ => rfl⟩⟩
theorem zX_tr {h : Nat} {Z Z' Z'' : zZ} {S S' S'' : zS} (a : zX h Z Z' S S') (b : zX h Z' Z'' S' S'') : zX h Z Z'' S S'' := ⟨Nat.le_trans a.1 b.1, fun p hp => ⟨(b.2 p (Nat.lt_of_lt_of_le hp a.1)).1.trans (a.2 p hp).1, fun hh => by
  have z := (b.2 p (Nat.lt_of_lt_of_le hp a.1)).2 hh
  rw [(a.2 p hp).1] at z
  exact z.trans ((a.2 p hp).2 hh)⟩⟩
/-- a cell made since may have changed -/
theorem zX_tn {h h' : Nat} {Z Z' Z'' : zZ} {S S' S'' : zS} (a : zX h Z Z' S S') (b : zX h' Z' Z'' S' S'') (hn : zPm Z ≤ h') : zX h Z Z'' S S'' := ⟨Nat.le_trans a.1 b.1, fun p hp => ⟨(b.2 p (Nat.lt_of_lt_of_le hp a.1)).1.trans (a.2 p hp).1, fun hh => by
  have z := (b.2 p (Nat.lt_of_lt_of_le hp a.1)).2 (by omega)
  rw [(a.2 p hp).1] at z
  exact z.trans ((a.2 p hp).2 hh)⟩⟩
theorem zX_w {h h' : Nat} {Z Z' : zZ} {S S' : zS} (a : zX h Z Z' S S') (hn : zPm Z ≤ h) : zX h' Z Z' S S' := ⟨a.1, fun p hp => ⟨(a.2 p hp).1, fun _ => (a.2 p hp).2 (by omega)⟩⟩
theorem zOb_X {h p : Nat} {Z Z' : zZ} {S S' : zS} {r : zrc} (a : zX h Z Z' S S') (o : zOb Z S p r) (hp : p ≠ h) : zOb Z' S' p r := ⟨Nat.lt_of_lt_of_le o.1 a.1, by rw [(a.2 p o.1).1, (a.2 p o.1).2 hp]; exact o.2⟩
theorem zPa_in {Z : zZ} {p : Nat} (h : p < zPm Z) : zPa Z p ∈ zL Z := by
  unfold zPa
  unfold zPm at h
  rw [List.getD_eq_getElem?_getD, List.getElem?_eq_getElem h]
  exact List.getElem_mem h
theorem zO_ne {Z : zZ} {S : zS} {b a : Nat} (k n : Nat) (h : a ≠ b) : zO (zalZ Z b k n) (zalS S b) a = zO Z S a := by
  unfold zO
  have e1 : zK (zalZ Z b k n) a = zK Z a := va_up_ne _ _ h
  have e2 : zN (zalZ Z b k n) a = zN Z a := va_up_ne _ _ h
  have e3 : zQ (zalZ Z b k n) a = zQ Z a := va_up_ne _ _ h
  have e4 : zI (zalS S b) a = zI S a := va_up_ne _ _ h
  have e5 : zJ (zalS S b) a = zJ S a := va_up_ne _ _ h
  have e6 : zR (zalS S b) a = zR S a := va_up_ne _ _ h
  rw [e1, e2, e3, e4, e5, e6]
theorem zO_al (Z : zZ) (S : zS) (b k n : Nat) : zO (zalZ Z b k n) (zalS S b) b = zr0 k n := by
  unfold zO zr0
  have e1 : zK (zalZ Z b k n) b = k := va_up_self _ _ _
  have e2 : zN (zalZ Z b k n) b = n := va_up_self _ _ _
  have e3 : zQ (zalZ Z b k n) b = fun _ => none := va_up_self _ _ _
  have e4 : zI (zalS S b) b = fun _ => 0 := va_up_self _ _ _
  have e5 : zJ (zalS S b) b = fun _ => 0 := va_up_self _ _ _
  have e6 : zR (zalS S b) b = fun _ => none := va_up_self _ _ _
  rw [e1, e2, e3, e4, e5, e6]
theorem zPm_al (Z : zZ) (b k n : Nat) : zPm (zalZ Z b k n) = zPm Z + 1 := by
  show (zL Z ++ [b]).length = _
  rw [List.length_append]; rfl
theorem zPa_al {Z : zZ} {b k n p : Nat} (h : p < zPm Z) : zPa (zalZ Z b k n) p = zPa Z p := by
  show (zL Z ++ [b]).getD p 0 = (zL Z).getD p 0
  unfold zPm at h
  rw [List.getD_eq_getElem?_getD, List.getD_eq_getElem?_getD, List.getElem?_append_left h]
theorem zPa_al0 (Z : zZ) (b k n : Nat) : zPa (zalZ Z b k n) (zPm Z) = b := by
  show (zL Z ++ [b]).getD (zL Z).length 0 = b
  rw [List.getD_eq_getElem?_getD, List.getElem?_append_right (Nat.le_refl _), Nat.sub_self]
  rfl
theorem zok_al {Z : zZ} {b : Nat} (k n : Nat) (h : zok Z) (hb : b ∉ zL Z) : zok (zalZ Z b k n) := fun p p' hp hp' e => by
  rw [zPm_al] at hp hp'
  rcases Nat.lt_succ_iff_lt_or_eq.mp hp with a | a
  · rcases Nat.lt_succ_iff_lt_or_eq.mp hp' with c | c
    · rw [zPa_al a, zPa_al c] at e
      exact h p p' a c e
    · rw [zPa_al a, c, zPa_al0] at e
      exact absurd (e ▸ zPa_in a) hb
  · rcases Nat.lt_succ_iff_lt_or_eq.mp hp' with c | c
    · rw [zPa_al c, a, zPa_al0] at e
      exact absurd (e ▸ zPa_in c) hb
    · omega
/-- a cell is made -/
theorem st_al (h : Nat) {Z Z' : zZ} {S S' : zS} {b k n : Nat} (ok : zok Z) (hb : b ∉ zL Z) (e1 : Z' = zalZ Z b k n) (e2 : S' = zalS S b) : zok Z' ∧ zPm Z' = zPm Z + 1 ∧ zX h Z Z' S S' ∧ zPa Z' (zPm Z) = b ∧ zOb Z' S' (zPm Z) (zr0 k n) := by
  subst e1 e2
  refine ⟨zok_al k n ok hb, zPm_al _ _ _ _, ⟨by rw [zPm_al]; omega, fun p hp => ⟨zPa_al hp, fun _ => zO_ne k n (fun e => hb (e ▸ zPa_in hp))⟩⟩, zPa_al0 _ _ _ _, by rw [zPm_al]; omega, ?_⟩
  rw [zPa_al0]
  exact zO_al _ _ _ _ _
/-- a cell changes -/
def zwQ (r : zrc) (f : Nat) (v : Option Nat) : zrc := ((r.1.1, fun x => if x = f then v else r.1.2 x), r.2)
def zwI (r : zrc) (f : Nat) (v : Int32) : zrc := (r.1, fun x => if x = f then v else r.2.1 x, r.2.2)
def zwR (r : zrc) (f : Nat) (v : Option Nat) : zrc := (r.1, r.2.1, r.2.2.1, fun x => if x = f then v else r.2.2.2 x)
theorem st_Q {h f : Nat} {Z Z' : zZ} {S : zS} {r : zrc} {v : Option Nat} (ok : zok Z) (o : zOb Z S h r) (e : Z' = zsQ Z (zPa Z h) f v) : zok Z' ∧ zPm Z' = zPm Z ∧ zX h Z Z' S S ∧ zOb Z' S h (zwQ r f v) ∧ zPa Z' = zPa Z := by
  subst e
  refine ⟨ok, rfl, ⟨Nat.le_refl _, fun p hp => ⟨rfl, fun hh => ?_⟩⟩, ⟨o.1, ?_⟩, rfl⟩
  · have hne : zPa Z p ≠ zPa Z h := fun e => hh (ok p h hp o.1 e)
    have e3 : zQ (zsQ Z (zPa Z h) f v) (zPa Z p) = zQ Z (zPa Z p) := zu_ne _ _ _ _ _ hne
    unfold zO
    rw [e3]; rfl
  · have e3 : zQ (zsQ Z (zPa Z h) f v) (zPa Z h) = fun x => if x = f then v else zQ Z (zPa Z h) x := zu_eq _ _ _ _
    rw [← o.2]
    show zO (zsQ Z (zPa Z h) f v) S (zPa Z h) = _
    unfold zO
    rw [e3]; rfl
theorem st_I {h f : Nat} {Z : zZ} {S S' : zS} {r : zrc} {v : Int32} (ok : zok Z) (o : zOb Z S h r) (e : S' = zsI S (zPa Z h) f v) : zX h Z Z S S' ∧ zOb Z S' h (zwI r f v) := by
  subst e
  refine ⟨⟨Nat.le_refl _, fun p hp => ⟨rfl, fun hh => ?_⟩⟩, o.1, ?_⟩
  · have hne : zPa Z p ≠ zPa Z h := fun e => hh (ok p h hp o.1 e)
    have e3 : zI (zsI S (zPa Z h) f v) (zPa Z p) = zI S (zPa Z p) := zu_ne _ _ _ _ _ hne
    unfold zO
    rw [e3]; rfl
  · have e3 : zI (zsI S (zPa Z h) f v) (zPa Z h) = fun x => if x = f then v else zI S (zPa Z h) x := zu_eq _ _ _ _
    rw [← o.2]
    unfold zO
    rw [e3]; rfl
theorem st_R {h f : Nat} {Z : zZ} {S S' : zS} {r : zrc} {v : Option Nat} (ok : zok Z) (o : zOb Z S h r) (e : S' = zsR S (zPa Z h) f v) : zX h Z Z S S' ∧ zOb Z S' h (zwR r f v) := by
  subst e
  refine ⟨⟨Nat.le_refl _, fun p hp => ⟨rfl, fun hh => ?_⟩⟩, o.1, ?_⟩
  · have hne : zPa Z p ≠ zPa Z h := fun e => hh (ok p h hp o.1 e)
    have e3 : zR (zsR S (zPa Z h) f v) (zPa Z p) = zR S (zPa Z p) := zu_ne _ _ _ _ _ hne
    unfold zO
    rw [e3]; rfl
  · have e3 : zR (zsR S (zPa Z h) f v) (zPa Z h) = fun x => if x = f then v else zR S (zPa Z h) x := zu_eq _ _ _ _
    rw [← o.2]
    unfold zO
    rw [e3]; rfl
theorem zOb_k {Z : zZ} {S : zS} {p k n : Nat} {r : zrc} (o : zOb Z S p r) (e : r.1.1 = (k, n)) : zk Z (zPa Z p) k ∧ zN Z (zPa Z p) = n := by
  have := congrArg (fun z : zrc => z.1.1) o.2
  rw [e] at this
  exact ⟨⟨zPa_in o.1, congrArg Prod.fst this⟩, congrArg Prod.snd this⟩
theorem zOb_Q {Z : zZ} {S : zS} {p : Nat} {r : zrc} (o : zOb Z S p r) (f : Nat) : zQ Z (zPa Z p) f = r.1.2 f := congrFun (congrArg (fun z : zrc => z.1.2) o.2) f
theorem zOb_I {Z : zZ} {S : zS} {p : Nat} {r : zrc} (o : zOb Z S p r) (f : Nat) : zI S (zPa Z p) f = r.2.1 f := congrFun (congrArg (fun z : zrc => z.2.1) o.2) f
theorem zOb_J {Z : zZ} {S : zS} {p : Nat} {r : zrc} (o : zOb Z S p r) (f : Nat) : zJ S (zPa Z p) f = r.2.2.1 f := congrFun (congrArg (fun z : zrc => z.2.2.1) o.2) f
theorem zOb_R {Z : zZ} {S : zS} {p : Nat} {r : zrc} (o : zOb Z S p r) (f : Nat) : zR S (zPa Z p) f = r.2.2.2 f := congrFun (congrArg (fun z : zrc => z.2.2.2) o.2) f
/-- an array is made and put into a field of the cell at h -/
theorem st_arr {h f kh nh k n : Nat} {Z : zZ} {S S4 : zS} {r : zrc} {b : Nat} {Z3 : zZ} (ok : zok Z) (o : zOb Z S h r) (er : r.1.1 = (kh, nh)) (hb : b ∉ zL Z) (e3 : Z3 = zalZ Z b k n) (e4 : S4 = zalS S b) : zk Z3 (zPa Z h) kh ∧ ∀ Z7, Z7 = zsQ Z3 (zPa Z h) f (some b) → zok Z7 ∧ zPm Z7 = zPm Z + 1 ∧ zX h Z Z7 S S4 ∧ zPa Z7 (zPm Z) = b ∧ zOb Z7 S4 (zPm Z) (zr0 k n) ∧ zOb Z7 S4 h (zwQ r f (some (zPa Z7 (zPm Z)))) := by
  obtain ⟨a1, a2, a3, a4, a5⟩ := st_al (zPm Z) ok hb e3 e4
  have o3 : zOb Z3 S4 h r := zOb_X a3 o (by have := o.1; omega)
  have eA : zPa Z3 h = zPa Z h := (a3.2 h o.1).1
  have hk := (zOb_k o3 er).1
  rw [eA] at hk
  refine ⟨hk, fun Z7 e7 => ?_⟩
  rw [← eA] at e7
  obtain ⟨b1, b2, b3, b4, b5⟩ := st_Q a1 o3 e7
  have e0 : zPa Z7 (zPm Z) = b := by rw [b5]; exact a4
  refine ⟨b1, b2.trans a2, zX_tr (zX_w a3 (Nat.le_refl _)) b3, e0, zOb_X b3 a5 (by have := o.1; omega), ?_⟩
  rw [e0]
  exact b4
