-- ===== how well rows fit: the class's numbers =====
def pf_mx (a b : Int32) : Int32 := if a < b then b else a
def pf_gap (o x : Int32) (j : Nat) : Int32 := if j = 0 then 0 else o + nI j * x
abbrev pf_imp : Int32 := -1000000000
/-- (fits, with a gap in the pattern's row, with a gap in the text's) at j, by the row ahead -/
def pf_cs (o x fl ah : Int32) (sc : Nat → Int32) (h f : Nat → Int32) : Nat → Int32 × Int32 × Int32
  | 0 => (ah, f 0, pf_imp)
  | j + 1 => (pf_mx (pf_mx (h j + sc j) (pf_mx (pf_mx (f (j + 1)) (h (j + 1) - o) - x) (pf_mx (pf_cs o x fl ah sc h f j).2.2 ((pf_cs o x fl ah sc h f j).1 - o) - x))) fl,
      pf_mx (f (j + 1)) (h (j + 1) - o) - x, pf_mx (pf_cs o x fl ah sc h f j).2.2 ((pf_cs o x fl ah sc h f j).1 - o) - x)
def pf_fl (b : Bool) : Int32 := if b then 0 else pf_imp
def pf_ah (b : Bool) (o x : Int32) (i : Nat) : Int32 := if b then 0 else - pf_gap o x i
def pf_cr (b : Bool) (o x : Int32) (sc : Nat → Nat → Int32) : Nat → (Nat → Int32) × (Nat → Int32)
  | 0 => (fun j => pf_ah b o x j, fun _ => pf_imp)
  | i + 1 => (fun j => (pf_cs o x (pf_fl b) (pf_ah b o x (i + 1)) (sc i) (pf_cr b o x sc i).1 (pf_cr b o x sc i).2 j).1, fun j => (pf_cs o x (pf_fl b) (pf_ah b o x (i + 1)) (sc i) (pf_cr b o x sc i).1 (pf_cr b o x sc i).2 j).2.1)
-- ===== the reference's =====
def pf_gr (a b : Int32) : Int32 := if b < a then a else b
abbrev pf_far : Int32 := -100000000
/-- (both, across, down) -/
abbrev pf_T : Type := Int32 × Int32 × Int32
def pf_top (v : pf_T) : Int32 := pf_gr v.1 (pf_gr v.2.1 v.2.2)
def pf_bd (b : Bool) : Int32 := if b then 0 else pf_far
def pf_r0 (b : Bool) (x fi : Int32) : Nat → pf_T
  | 0 => (0, pf_far, pf_far)
  | j + 1 => (pf_bd b, pf_gr ((pf_r0 b x fi j).2.1 - x) (pf_top (pf_r0 b x fi j) - fi), pf_far)
def pf_rs (b : Bool) (x fi : Int32) (sc : Nat → Int32) (v : Nat → pf_T) : Nat → pf_T
  | 0 => (pf_bd b, pf_far, pf_gr ((v 0).2.2 - x) (pf_top (v 0) - fi))
  | j + 1 => ((if b = true ∧ pf_top (v j) + sc j < 0 then 0 else pf_top (v j) + sc j), pf_gr ((pf_rs b x fi sc v j).2.1 - x) (pf_top (pf_rs b x fi sc v j) - fi), pf_gr ((v (j + 1)).2.2 - x) (pf_top (v (j + 1)) - fi))
def pf_rr (b : Bool) (x fi : Int32) (sc : Nat → Nat → Int32) : Nat → Nat → pf_T
  | 0 => pf_r0 b x fi
  | i + 1 => pf_rs b x fi (sc i) (pf_rr b x fi sc i)
-- ===== they agree =====
theorem pf_mx_i (a b : Int32) : (pf_mx a b).toInt = max a.toInt b.toInt := by
  unfold pf_mx; split <;> rename_i h <;> rw [px_lt] at h <;> omega
theorem pf_gr_i (a b : Int32) : (pf_gr a b).toInt = max a.toInt b.toInt := by
  unfold pf_gr; split <;> rename_i h <;> rw [px_lt] at h <;> omega
theorem pf_imp_i : pf_imp.toInt = -1000000000 := by decide
theorem pf_far_i : pf_far.toInt = -100000000 := by decide
theorem pf_top_i (v : pf_T) : (pf_top v).toInt = max v.1.toInt (max v.2.1.toInt v.2.2.toInt) := by
  unfold pf_top; rw [pf_gr_i, pf_gr_i]
theorem pf_gap_i {o x : Int32} {j : Nat} (ho : 0 ≤ o.toInt ∧ o.toInt ≤ 1000) (hx : 0 ≤ x.toInt ∧ x.toInt ≤ 1000) (hj : j ≤ 1000) : (pf_gap o x j).toInt = if j = 0 then 0 else o.toInt + j * x.toInt := by
  unfold pf_gap
  split
  · rfl
  · have h1 : (nI j * x).toInt = j * x.toInt := by
      have h2 : (j : Int) * x.toInt ≤ 1000 * 1000 := Int.mul_le_mul (by omega) hx.2 hx.1 (by omega)
      have h3 : 0 ≤ (j : Int) * x.toInt := Int.mul_nonneg (by omega) hx.1
      rw [Int32.toInt_mul, nI_toInt (by omega), Int.bmod_def]; omega
    have h2 : (j : Int) * x.toInt ≤ 1000 * 1000 := Int.mul_le_mul (by omega) hx.2 hx.1 (by omega)
    have h3 : 0 ≤ (j : Int) * x.toInt := Int.mul_nonneg (by omega) hx.1
    rw [px_add (by omega) (by omega), h1]
theorem pf_gap_0 (o x : Int32) : (pf_gap o x 0).toInt = 0 := rfl
theorem pf_gap_1 {o x : Int32} (ho : 0 ≤ o.toInt ∧ o.toInt ≤ 1000) (hx : 0 ≤ x.toInt ∧ x.toInt ≤ 1000) : (pf_gap o x 1).toInt = o.toInt + x.toInt := by
  rw [pf_gap_i ho hx (by omega), if_neg (by omega)]; omega
theorem pf_gap_s {o x : Int32} {j : Nat} (ho : 0 ≤ o.toInt ∧ o.toInt ≤ 1000) (hx : 0 ≤ x.toInt ∧ x.toInt ≤ 1000) (h1 : 1 ≤ j) (hj : j < 1000) : (pf_gap o x (j + 1)).toInt = (pf_gap o x j).toInt + x.toInt := by
  rw [pf_gap_i ho hx (by omega), pf_gap_i ho hx (by omega), if_neg (by omega), if_neg (by omega)]
  have h : (((j + 1 : Nat) : Int)) * x.toInt = j * x.toInt + x.toInt := by rw [Int.natCast_add, Int.add_mul]; omega
  omega
theorem pf_gap_b {o x : Int32} {j : Nat} (ho : 0 ≤ o.toInt ∧ o.toInt ≤ 1000) (hx : 0 ≤ x.toInt ∧ x.toInt ≤ 1000) (hj : j ≤ 1000) : 0 ≤ (pf_gap o x j).toInt ∧ (pf_gap o x j).toInt ≤ 2000 * j := by
  rw [pf_gap_i ho hx hj]
  split
  · omega
  · have h2 : (j : Int) * x.toInt ≤ j * 1000 := Int.mul_le_mul (Int.le_refl _) hx.2 hx.1 (by omega)
    have h3 : 0 ≤ (j : Int) * x.toInt := Int.mul_nonneg (by omega) hx.1
    omega
theorem pf_ah_t (o x : Int32) (j : Nat) : (pf_ah true o x j).toInt = 0 := rfl
theorem pf_ah_f {o x : Int32} {j : Nat} (ho : 0 ≤ o.toInt ∧ o.toInt ≤ 1000) (hx : 0 ≤ x.toInt ∧ x.toInt ≤ 1000) (hj : j ≤ 1000) : (pf_ah false o x j).toInt = - (pf_gap o x j).toInt := by
  have h := pf_gap_b ho hx hj
  show (- pf_gap o x j).toInt = _
  rw [Int32.toInt_neg, Int.bmod_def]; omega
def pf_I (b : Bool) (o x : Int32) (sc : Nat → Nat → Int32) (i j : Nat) : Prop :=
  (pf_top (pf_rr b x (o + x) sc i j)).toInt = ((pf_cr b o x sc i).1 j).toInt ∧ -(2000 * ((i : Int) + j)) ≤ ((pf_cr b o x sc i).1 j).toInt ∧ ((pf_cr b o x sc i).1 j).toInt ≤ 1000 * ((i : Int) + j)
def pf_J (b : Bool) (o x : Int32) (sc : Nat → Nat → Int32) (i j : Nat) : Prop :=
  (i = 0 ∧ ((pf_cr b o x sc i).2 j).toInt = -1000000000 ∧ (pf_rr b x (o + x) sc i j).2.2.toInt = -100000000) ∨
  (1 ≤ i ∧ ((pf_cr b o x sc i).2 j).toInt = (pf_rr b x (o + x) sc i j).2.2.toInt ∧ -(2000 * ((i : Int) + j)) ≤ ((pf_cr b o x sc i).2 j).toInt ∧ ((pf_cr b o x sc i).2 j).toInt ≤ 1000 * ((i : Int) + j))
def pf_Z (b : Bool) (o x : Int32) (sc : Nat → Nat → Int32) (i : Nat) : Prop :=
  (b = false → (i = 0 ∧ (pf_rr b x (o + x) sc i 0).2.2.toInt = -100000000) ∨ (1 ≤ i ∧ (pf_rr b x (o + x) sc i 0).2.2.toInt = ((pf_cr b o x sc i).1 0).toInt)) ∧
  (b = true → -100000000 - 1000 * (i : Int) ≤ (pf_rr b x (o + x) sc i 0).2.2.toInt ∧ (pf_rr b x (o + x) sc i 0).2.2.toInt ≤ 0)
section
variable {b : Bool} {o x : Int32} {sc : Nat → Nat → Int32}
theorem pf_row0 (ho : 0 ≤ o.toInt ∧ o.toInt ≤ 1000) (hx : 0 ≤ x.toInt ∧ x.toInt ≤ 1000) : ∀ j : Nat, j ≤ 300 → (pf_top (pf_r0 b x (o + x) j)).toInt = (pf_ah b o x j).toInt ∧
    (b = false → (j = 0 ∧ (pf_r0 b x (o + x) j).2.1.toInt = -100000000) ∨ (1 ≤ j ∧ (pf_r0 b x (o + x) j).2.1.toInt = (pf_ah b o x j).toInt)) ∧ (b = true → -100000000 - 1000 * (j : Int) ≤ (pf_r0 b x (o + x) j).2.1.toInt ∧ (pf_r0 b x (o + x) j).2.1.toInt ≤ 0) := by
  have hf : (o + x).toInt = o.toInt + x.toInt := px_add (by omega) (by omega)
  intro j
  induction j with
  | zero =>
    intro _
    refine ⟨?_, fun _ => Or.inl ⟨rfl, pf_far_i⟩, fun _ => ⟨by show -100000000 - 1000 * ((0 : Nat) : Int) ≤ pf_far.toInt; rw [pf_far_i]; omega, by show pf_far.toInt ≤ 0; rw [pf_far_i]; omega⟩⟩
    cases b
    · show (pf_top ((0 : Int32), pf_far, pf_far)).toInt = (-(0 : Int32)).toInt
      decide
    · show (pf_top ((0 : Int32), pf_far, pf_far)).toInt = (0 : Int32).toInt
      decide
  | succ j ih =>
    intro hj
    obtain ⟨i1, i2, i3⟩ := ih (by omega)
    have g0 := pf_gap_0 o x
    have g1 := pf_gap_1 ho hx
    have gb := pf_gap_b (j := j) ho hx (by omega)
    have gs : 1 ≤ j → (pf_gap o x (j + 1)).toInt = (pf_gap o x j).toInt + x.toInt := fun h => pf_gap_s ho hx h (by omega)
    have gj : j = 0 → (pf_gap o x (j + 1)).toInt = o.toInt + x.toInt ∧ (pf_gap o x j).toInt = 0 := fun h => by subst h; exact ⟨g1, g0⟩
    have fi := pf_far_i
    cases b with
    | true =>
      have a1 := pf_ah_t o x j
      have a2 := pf_ah_t o x (j + 1)
      obtain ⟨q1, q2⟩ := i3 rfl
      have e1 : ((pf_r0 true x (o + x) j).2.1 - x).toInt = (pf_r0 true x (o + x) j).2.1.toInt - x.toInt := px_sub (by omega) (by omega)
      have e2 : (pf_top (pf_r0 true x (o + x) j) - (o + x)).toInt = (pf_top (pf_r0 true x (o + x) j)).toInt - (o + x).toInt := px_sub (by omega) (by omega)
      have e3 : (pf_r0 true x (o + x) (j + 1)).2.1.toInt = max ((pf_r0 true x (o + x) j).2.1 - x).toInt (pf_top (pf_r0 true x (o + x) j) - (o + x)).toInt := pf_gr_i _ _
      have e4 : (pf_r0 true x (o + x) (j + 1)).1.toInt = 0 := rfl
      have e5 : (pf_r0 true x (o + x) (j + 1)).2.2.toInt = -100000000 := fi
      refine ⟨?_, fun h => (nomatch h), fun _ => ?_⟩
      · rw [pf_top_i]; omega
      · omega
    | false =>
      have a1 := pf_ah_f (j := j) ho hx (by omega)
      have a2 := pf_ah_f (j := j + 1) ho hx (by omega)
      have q := i2 rfl
      have q1 : -200000000 ≤ (pf_r0 false x (o + x) j).2.1.toInt ∧ (pf_r0 false x (o + x) j).2.1.toInt ≤ 0 := by omega
      have e1 : ((pf_r0 false x (o + x) j).2.1 - x).toInt = (pf_r0 false x (o + x) j).2.1.toInt - x.toInt := px_sub (by omega) (by omega)
      have e2 : (pf_top (pf_r0 false x (o + x) j) - (o + x)).toInt = (pf_top (pf_r0 false x (o + x) j)).toInt - (o + x).toInt := px_sub (by omega) (by omega)
      have e3 : (pf_r0 false x (o + x) (j + 1)).2.1.toInt = max ((pf_r0 false x (o + x) j).2.1 - x).toInt (pf_top (pf_r0 false x (o + x) j) - (o + x)).toInt := pf_gr_i _ _
      have e4 : (pf_r0 false x (o + x) (j + 1)).1.toInt = -100000000 := fi
      have e5 : (pf_r0 false x (o + x) (j + 1)).2.2.toInt = -100000000 := fi
      have e6 : (pf_r0 false x (o + x) (j + 1)).2.1.toInt = (pf_ah false o x (j + 1)).toInt := by omega
      refine ⟨?_, fun _ => Or.inr ⟨by omega, e6⟩, fun h => (nomatch h)⟩
      rw [pf_top_i]; omega
theorem pf_fin {v H T F E A D fl bo : Int} (hH : H = max (max v (max F E)) fl) (hT : T = max bo (max A D)) (h1 : F = D) (h2 : E = A) (hF : -1000000000 ≤ F) (hb : (bo = max 0 v ∧ fl = 0) ∨ (bo = v ∧ fl = -1000000000)) : T = H := by omega
theorem pf_finb {v H F E fl N : Int} (hH : H = max (max v (max F E)) fl) (hN : 0 ≤ N) (hv : v ≤ 1000 * N) (h1 : -(2000 * N) ≤ F) (h2 : F ≤ 1000 * N) (h3 : E ≤ 1000 * N) (hf : fl ≤ 0) : -(2000 * N) ≤ H ∧ H ≤ 1000 * N := by omega
theorem pf_gapZ {h t f d o x N : Int} (ho : 0 ≤ o ∧ o ≤ 1000) (hx : 0 ≤ x ∧ x ≤ 1000) (ht : t = h) (hN : 0 ≤ N) (hN2 : N ≤ 1000) (h1 : -(2000 * N) ≤ h) (h2 : h ≤ 1000 * N) (w : (f = -1000000000 ∧ d = -100000000) ∨ (f = d ∧ f ≤ 1000 * N)) :
    max f (h - o) - x = max (d - x) (t - (o + x)) ∧ -(2000 * (N + 1)) ≤ max f (h - o) - x ∧ max f (h - o) - x ≤ 1000 * (N + 1) := by omega
set_option maxHeartbeats 8000000 in
/-- one row further: at j, with what gaps in the text's row give -/
theorem pf_rowS (ho : 0 ≤ o.toInt ∧ o.toInt ≤ 1000) (hx : 0 ≤ x.toInt ∧ x.toInt ≤ 1000) (hsc : ∀ i j, -1000 ≤ (sc i j).toInt ∧ (sc i j).toInt ≤ 1000) {i : Nat} (hi : i < 150)
    (hI : ∀ j : Nat, j ≤ 300 → pf_I b o x sc i j) (hJ : ∀ j : Nat, 1 ≤ j → j ≤ 300 → pf_J b o x sc i j) (hZ : pf_Z b o x sc i) :
    ∀ (C : Nat → Int32 × Int32 × Int32) (V : Nat → pf_T), C = pf_cs o x (pf_fl b) (pf_ah b o x (i + 1)) (sc i) (pf_cr b o x sc i).1 (pf_cr b o x sc i).2 → V = pf_rs b x (o + x) (sc i) (pf_rr b x (o + x) sc i) → ∀ j : Nat, j ≤ 300 →
      ((pf_top (V j)).toInt = (C j).1.toInt ∧ -(2000 * ((i : Int) + 1 + j)) ≤ (C j).1.toInt ∧ (C j).1.toInt ≤ 1000 * ((i : Int) + 1 + j)) ∧
      (1 ≤ j → (C j).2.1.toInt = (V j).2.2.toInt ∧ -(2000 * ((i : Int) + 1 + j)) ≤ (C j).2.1.toInt ∧ (C j).2.1.toInt ≤ 1000 * ((i : Int) + 1 + j)) ∧
      ((j = 0 ∧ (C j).2.2.toInt = -1000000000 ∧ (V j).2.1.toInt = -100000000) ∨ (1 ≤ j ∧ (C j).2.2.toInt = (V j).2.1.toInt ∧ -(2000 * ((i : Int) + 1 + j)) ≤ (C j).2.2.toInt ∧ (C j).2.2.toInt ≤ 1000 * ((i : Int) + 1 + j))) ∧
      (j = 0 → (b = false → (V j).2.2.toInt = (C j).1.toInt) ∧ (b = true → -100000000 - 1000 * ((i : Int) + 1) ≤ (V j).2.2.toInt ∧ (V j).2.2.toInt ≤ 0)) := by
  have hf : (o + x).toInt = o.toInt + x.toInt := px_add (by omega) (by omega)
  have fi := pf_far_i
  have im := pf_imp_i
  intro C V hC hV j
  induction j with
  | zero =>
    intro _
    obtain ⟨t1, t2, t3⟩ := hI 0 (by omega)
    have c1 : (C 0).1 = pf_ah b o x (i + 1) := by rw [hC]; rfl
    have c3 : (C 0).2.2 = pf_imp := by rw [hC]; rfl
    have v1 : (V 0).1 = pf_bd b := by rw [hV]; rfl
    have v2 : (V 0).2.1 = pf_far := by rw [hV]; rfl
    have v3 : (V 0).2.2 = pf_gr ((pf_rr b x (o + x) sc i 0).2.2 - x) (pf_top (pf_rr b x (o + x) sc i 0) - (o + x)) := by rw [hV]; rfl
    have hd : -100000000 - 1000 * (i : Int) ≤ (pf_rr b x (o + x) sc i 0).2.2.toInt ∧ (pf_rr b x (o + x) sc i 0).2.2.toInt ≤ 1000000 := by
      cases b with
      | true => have := hZ.2 rfl; omega
      | false => have := hZ.1 rfl; omega
    have e1 : ((pf_rr b x (o + x) sc i 0).2.2 - x).toInt = (pf_rr b x (o + x) sc i 0).2.2.toInt - x.toInt := px_sub (by omega) (by omega)
    have e2 : (pf_top (pf_rr b x (o + x) sc i 0) - (o + x)).toInt = (pf_top (pf_rr b x (o + x) sc i 0)).toInt - (o + x).toInt := px_sub (by omega) (by omega)
    have e3 : (V 0).2.2.toInt = max ((pf_rr b x (o + x) sc i 0).2.2 - x).toInt (pf_top (pf_rr b x (o + x) sc i 0) - (o + x)).toInt := by rw [v3]; exact pf_gr_i _ _
    have e4 : (pf_top (V 0)).toInt = max (V 0).1.toInt (max (V 0).2.1.toInt (V 0).2.2.toInt) := pf_top_i _
    rw [v1, v2] at e4
    rw [c1, c3, v2]
    have gb := pf_gap_b (j := i + 1) ho hx (by omega)
    cases b with
    | true =>
      have a1 := pf_ah_t o x (i + 1)
      have a0 : (pf_bd true).toInt = 0 := rfl
      have a2 : ((pf_cr true o x sc i).1 0).toInt = 0 := by cases i <;> rfl
      have z := hZ.2 rfl
      refine ⟨⟨by omega, by omega, by omega⟩, fun h => absurd h (by omega), Or.inl ⟨rfl, im, fi⟩, fun _ => ⟨fun h => (nomatch h), fun _ => ⟨by omega, by omega⟩⟩⟩
    | false =>
      have a1 := pf_ah_f (j := i + 1) ho hx (by omega)
      have a0 : (pf_bd false).toInt = -100000000 := fi
      have a2 : ((pf_cr false o x sc i).1 0).toInt = - (pf_gap o x i).toInt := by
        have := pf_ah_f (j := i) ho hx (by omega)
        cases i <;> exact this
      have z := hZ.1 rfl
      have gs : 1 ≤ i → (pf_gap o x (i + 1)).toInt = (pf_gap o x i).toInt + x.toInt := fun h => pf_gap_s ho hx h (by omega)
      have gj : i = 0 → (pf_gap o x (i + 1)).toInt = o.toInt + x.toInt ∧ (pf_gap o x i).toInt = 0 := fun h => by subst h; exact ⟨pf_gap_1 ho hx, pf_gap_0 o x⟩
      have gc := pf_gap_b (j := i) ho hx (by omega)
      have e5 : (V 0).2.2.toInt = (pf_ah false o x (i + 1)).toInt := by omega
      refine ⟨⟨by omega, by omega, by omega⟩, fun h => absurd h (by omega), Or.inl ⟨rfl, im, fi⟩, fun _ => ⟨fun _ => e5, fun h => (nomatch h)⟩⟩
  | succ j ih =>
    intro hj
    obtain ⟨⟨i1, i2, i3⟩, -, i5, -⟩ := ih (by omega)
    obtain ⟨t1, t2, t3⟩ := hI j (by omega)
    obtain ⟨u1, u2, u3⟩ := hI (j + 1) hj
    have w := hJ (j + 1) (by omega) hj
    have s1 := hsc i j
    have c1 : (C (j + 1)).1 = pf_mx (pf_mx ((pf_cr b o x sc i).1 j + sc i j) (pf_mx (C (j + 1)).2.1 (C (j + 1)).2.2)) (pf_fl b) := by rw [hC]; rfl
    have c2 : (C (j + 1)).2.1 = pf_mx ((pf_cr b o x sc i).2 (j + 1)) ((pf_cr b o x sc i).1 (j + 1) - o) - x := by rw [hC]; rfl
    have c3 : (C (j + 1)).2.2 = pf_mx (C j).2.2 ((C j).1 - o) - x := by rw [hC]; rfl
    have v1 : (V (j + 1)).1 = if b = true ∧ pf_top (pf_rr b x (o + x) sc i j) + sc i j < 0 then 0 else pf_top (pf_rr b x (o + x) sc i j) + sc i j := by rw [hV]; rfl
    have v2 : (V (j + 1)).2.1 = pf_gr ((V j).2.1 - x) (pf_top (V j) - (o + x)) := by rw [hV]; rfl
    have v3 : (V (j + 1)).2.2 = pf_gr ((pf_rr b x (o + x) sc i (j + 1)).2.2 - x) (pf_top (pf_rr b x (o + x) sc i (j + 1)) - (o + x)) := by rw [hV]; rfl
    -- the gap in the pattern's row
    have f1 : ((pf_cr b o x sc i).1 (j + 1) - o).toInt = ((pf_cr b o x sc i).1 (j + 1)).toInt - o.toInt := px_sub (by omega) (by omega)
    have f2 : (pf_mx ((pf_cr b o x sc i).2 (j + 1)) ((pf_cr b o x sc i).1 (j + 1) - o)).toInt = max ((pf_cr b o x sc i).2 (j + 1)).toInt ((pf_cr b o x sc i).1 (j + 1) - o).toInt := pf_mx_i _ _
    have f3 : (C (j + 1)).2.1.toInt = (pf_mx ((pf_cr b o x sc i).2 (j + 1)) ((pf_cr b o x sc i).1 (j + 1) - o)).toInt - x.toInt := by
      rw [c2]; rcases w with ⟨w0, w1, w2⟩ | ⟨w0, w1, w2, w3⟩ <;> exact px_sub (by omega) (by omega)
    have f4 : ((pf_rr b x (o + x) sc i (j + 1)).2.2 - x).toInt = (pf_rr b x (o + x) sc i (j + 1)).2.2.toInt - x.toInt := by
      rcases w with ⟨w0, w1, w2⟩ | ⟨w0, w1, w2, w3⟩ <;> exact px_sub (by omega) (by omega)
    have f5 : (pf_top (pf_rr b x (o + x) sc i (j + 1)) - (o + x)).toInt = (pf_top (pf_rr b x (o + x) sc i (j + 1))).toInt - (o + x).toInt := px_sub (by omega) (by omega)
    have f6 : (V (j + 1)).2.2.toInt = max ((pf_rr b x (o + x) sc i (j + 1)).2.2 - x).toInt (pf_top (pf_rr b x (o + x) sc i (j + 1)) - (o + x)).toInt := by rw [v3]; exact pf_gr_i _ _
    have f7 : (C (j + 1)).2.1.toInt = (V (j + 1)).2.2.toInt ∧ -(2000 * ((i : Int) + 1 + (j + 1))) ≤ (C (j + 1)).2.1.toInt ∧ (C (j + 1)).2.1.toInt ≤ 1000 * ((i : Int) + 1 + (j + 1)) := by
      rw [f3, f2, f1, f6, f4, f5, hf]
      have z := pf_gapZ (N := (i : Int) + ((j + 1 : Nat) : Int)) ho hx u1 (by omega) (by omega) u2 u3 (w.elim (fun w => Or.inl ⟨w.2.1, w.2.2⟩) (fun w => Or.inr ⟨w.2.1, w.2.2.2⟩))
      have zn : (i : Int) + ((j + 1 : Nat) : Int) + 1 = (i : Int) + 1 + (j + 1) := by omega
      rw [zn] at z
      exact z
    -- the gap in the text's row
    have g1 : ((C j).1 - o).toInt = (C j).1.toInt - o.toInt := px_sub (by omega) (by omega)
    have g2 : (pf_mx (C j).2.2 ((C j).1 - o)).toInt = max (C j).2.2.toInt ((C j).1 - o).toInt := pf_mx_i _ _
    have g3 : (C (j + 1)).2.2.toInt = (pf_mx (C j).2.2 ((C j).1 - o)).toInt - x.toInt := by
      rw [c3]; rcases i5 with ⟨w0, w1, w2⟩ | ⟨w0, w1, w2, w3⟩ <;> exact px_sub (by omega) (by omega)
    have g4 : ((V j).2.1 - x).toInt = (V j).2.1.toInt - x.toInt := by
      rcases i5 with ⟨w0, w1, w2⟩ | ⟨w0, w1, w2, w3⟩ <;> exact px_sub (by omega) (by omega)
    have g5 : (pf_top (V j) - (o + x)).toInt = (pf_top (V j)).toInt - (o + x).toInt := px_sub (by omega) (by omega)
    have g6 : (V (j + 1)).2.1.toInt = max ((V j).2.1 - x).toInt (pf_top (V j) - (o + x)).toInt := by rw [v2]; exact pf_gr_i _ _
    have g7 : (C (j + 1)).2.2.toInt = (V (j + 1)).2.1.toInt ∧ -(2000 * ((i : Int) + 1 + (j + 1))) ≤ (C (j + 1)).2.2.toInt ∧ (C (j + 1)).2.2.toInt ≤ 1000 * ((i : Int) + 1 + (j + 1)) := by
      rw [g3, g2, g1, g6, g4, g5, hf]
      have z := pf_gapZ (N := (i : Int) + 1 + (j : Int)) ho hx i1 (by omega) (by omega) i2 i3 (i5.elim (fun w => Or.inl ⟨w.2.1, w.2.2⟩) (fun w => Or.inr ⟨w.2.1, w.2.2.2⟩))
      have zn : (i : Int) + 1 + (j : Int) + 1 = (i : Int) + 1 + (j + 1) := by omega
      rw [zn] at z
      exact z
    -- opposite
    have k1 : ((pf_cr b o x sc i).1 j + sc i j).toInt = ((pf_cr b o x sc i).1 j).toInt + (sc i j).toInt := px_add (by omega) (by omega)
    have k2 : (pf_top (pf_rr b x (o + x) sc i j) + sc i j).toInt = (pf_top (pf_rr b x (o + x) sc i j)).toInt + (sc i j).toInt := px_add (by omega) (by omega)
    have k3 : (C (j + 1)).1.toInt = max (max ((pf_cr b o x sc i).1 j + sc i j).toInt (max (C (j + 1)).2.1.toInt (C (j + 1)).2.2.toInt)) (pf_fl b).toInt := by
      rw [c1, pf_mx_i, pf_mx_i, pf_mx_i]
    have k4 : (pf_top (V (j + 1))).toInt = max (V (j + 1)).1.toInt (max (V (j + 1)).2.1.toInt (V (j + 1)).2.2.toInt) := pf_top_i _
    have k5 : ((i : Int) + 1 + ((j + 1 : Nat) : Int)) = (i : Int) + 1 + (j + 1) := by omega
    rw [k5]
    have kv : (pf_top (pf_rr b x (o + x) sc i j) + sc i j).toInt = ((pf_cr b o x sc i).1 j + sc i j).toInt := by rw [k2, k1, t1]
    have kb : ((pf_cr b o x sc i).1 j + sc i j).toInt ≤ 1000 * ((i : Int) + 1 + (j + 1)) := by rw [k1]; omega
    refine ⟨?_, fun _ => f7, Or.inr ⟨by omega, g7⟩, fun h => absurd h (by omega)⟩
    cases b with
    | true =>
      have a0 : (pf_fl true).toInt = 0 := rfl
      have a1 : (V (j + 1)).1.toInt = max 0 ((pf_cr true o x sc i).1 j + sc i j).toInt := by
        rw [v1, ← kv]
        have h0 : (0 : Int32).toInt = 0 := rfl
        by_cases hn : pf_top (pf_rr true x (o + x) sc i j) + sc i j < 0
        · rw [if_pos ⟨rfl, hn⟩]
          rw [px_lt, h0] at hn
          rw [h0]; exact (Int.max_eq_left (Int.le_of_lt hn)).symm
        · rw [if_neg (fun q => hn q.2)]
          rw [px_lt, h0] at hn
          exact (Int.max_eq_right (Int.not_lt.mp hn)).symm
      exact ⟨pf_fin k3 k4 f7.1 g7.1 (by have := f7.2.1; omega) (Or.inl ⟨a1, a0⟩), pf_finb k3 (by omega) kb f7.2.1 f7.2.2 g7.2.2 (by rw [a0]; exact Int.le_refl _)⟩
    | false =>
      have a0 : (pf_fl false).toInt = -1000000000 := im
      have a1 : (V (j + 1)).1.toInt = ((pf_cr false o x sc i).1 j + sc i j).toInt := by
        rw [v1, if_neg (fun q => Bool.noConfusion q.1), kv]
      exact ⟨pf_fin k3 k4 f7.1 g7.1 (by have := f7.2.1; omega) (Or.inr ⟨a1, a0⟩), pf_finb k3 (by omega) kb f7.2.1 f7.2.2 g7.2.2 (by rw [a0]; decide)⟩
theorem pf_all (ho : 0 ≤ o.toInt ∧ o.toInt ≤ 1000) (hx : 0 ≤ x.toInt ∧ x.toInt ≤ 1000) (hsc : ∀ i j, -1000 ≤ (sc i j).toInt ∧ (sc i j).toInt ≤ 1000) :
    ∀ i : Nat, i ≤ 150 → (∀ j : Nat, j ≤ 300 → pf_I b o x sc i j) ∧ (∀ j : Nat, 1 ≤ j → j ≤ 300 → pf_J b o x sc i j) ∧ pf_Z b o x sc i := by
  intro i
  induction i with
  | zero =>
    intro _
    refine ⟨fun j hj => ?_, fun j _ _ => Or.inl ⟨rfl, pf_imp_i, ?_⟩, fun _ => Or.inl ⟨rfl, pf_far_i⟩, fun _ => ⟨?_, ?_⟩⟩
    · obtain ⟨h1, -, -⟩ := pf_row0 (b := b) ho hx j hj
      refine ⟨h1, ?_⟩
      show -(2000 * (((0 : Nat) : Int) + j)) ≤ (pf_ah b o x j).toInt ∧ (pf_ah b o x j).toInt ≤ 1000 * (((0 : Nat) : Int) + j)
      have gb := pf_gap_b (j := j) ho hx (by omega)
      cases b with
      | true => rw [pf_ah_t]; omega
      | false => rw [pf_ah_f ho hx (by omega)]; omega
    · cases j <;> exact pf_far_i
    · show -100000000 - 1000 * ((0 : Nat) : Int) ≤ pf_far.toInt
      rw [pf_far_i]; omega
    · show pf_far.toInt ≤ 0
      rw [pf_far_i]; omega
  | succ i ih =>
    intro hi
    obtain ⟨h1, h2, h3⟩ := ih (by omega)
    have S := pf_rowS ho hx hsc (show i < 150 by omega) h1 h2 h3 _ _ rfl rfl
    have ec : (((i + 1 : Nat)) : Int) = (i : Int) + 1 := by omega
    refine ⟨fun j hj => ?_, fun j hj1 hj => Or.inr ⟨by omega, ?_⟩, ?_, ?_⟩
    · have h := (S j hj).1
      unfold pf_I
      rw [ec]; exact h
    · have h := (S j hj).2.1 hj1
      rw [ec]; exact h
    · intro hb
      exact Or.inr ⟨by omega, ((S 0 (by omega)).2.2.2 rfl).1 hb⟩
    · intro hb
      have h := ((S 0 (by omega)).2.2.2 rfl).2 hb
      rw [ec]; exact h
/-- class and reference hold the same numbers -/
theorem pf_same (ho : 0 ≤ o.toInt ∧ o.toInt ≤ 1000) (hx : 0 ≤ x.toInt ∧ x.toInt ≤ 1000) (hsc : ∀ i j, -1000 ≤ (sc i j).toInt ∧ (sc i j).toInt ≤ 1000) {i j : Nat} (hi : i ≤ 150) (hj : j ≤ 300) : pf_top (pf_rr b x (o + x) sc i j) = (pf_cr b o x sc i).1 j :=
  Int32.toInt_inj.mp ((pf_all ho hx hsc i hi).1 j hj).1
end
-- ===== the best parts =====
/-- (the best, where it ends in the pattern, in the text) -/
def pf_kb (v : Nat → Int32) (i : Nat) (s : Int32 × Int32 × Int32) : Nat → Int32 × Int32 × Int32
  | 0 => s
  | j + 1 => if (pf_kb v i s j).1 < v (j + 1) then (v (j + 1), nI i, nI (j + 1)) else pf_kb v i s j
def pf_best (v : Nat → Nat → Int32) (n : Nat) : Nat → Int32 × Int32 × Int32
  | 0 => (0, 0, 0)
  | i + 1 => pf_kb (v (i + 1)) (i + 1) (pf_best v n i) n
theorem pf_kb_c {v w : Nat → Int32} {i : Nat} {s : Int32 × Int32 × Int32} : ∀ j : Nat, (∀ k : Nat, k ≤ j → v k = w k) → pf_kb v i s j = pf_kb w i s j
  | 0, _ => rfl
  | j + 1, h => by
    unfold pf_kb
    rw [pf_kb_c j (fun k hk => h k (by omega)), h (j + 1) (Nat.le_refl _)]
theorem pf_best_c {v w : Nat → Nat → Int32} {n : Nat} : ∀ i : Nat, (∀ k j : Nat, k ≤ i → j ≤ n → v k j = w k j) → pf_best v n i = pf_best w n i
  | 0, _ => rfl
  | i + 1, h => by
    unfold pf_best
    rw [pf_best_c i (fun k j hk hj => h k j (by omega) hj), pf_kb_c n (fun k hk => h (i + 1) k (Nat.le_refl _) hk)]
