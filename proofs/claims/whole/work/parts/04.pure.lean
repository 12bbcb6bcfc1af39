-- ===== numbers =====
theorem px_le {a b : Int32} : a ≤ b ↔ a.toInt ≤ b.toInt := Int32.le_iff_toInt_le
theorem px_lt {a b : Int32} : a < b ↔ a.toInt < b.toInt := Int32.lt_iff_toInt_lt
theorem px_eq {a b : Int32} : a = b ↔ a.toInt = b.toInt := Int32.toInt_inj.symm
theorem px_add {a b : Int32} (h1 : -2147483648 ≤ a.toInt + b.toInt) (h2 : a.toInt + b.toInt < 2147483648) : (a + b).toInt = a.toInt + b.toInt := by
  rw [Int32.toInt_add, Int.bmod_def]; omega
theorem px_sub {a b : Int32} (h1 : -2147483648 ≤ a.toInt - b.toInt) (h2 : a.toInt - b.toInt < 2147483648) : (a - b).toInt = a.toInt - b.toInt := by
  rw [Int32.toInt_sub, Int.bmod_def]; omega
-- ===== the search: a cell =====
/-- what is there, or (d, s) if that is better -/
def px_tb (c : Int32 × Int32) (d s : Int32) : Int32 × Int32 := if d < c.1 ∨ (d = c.1 ∧ c.2 < s) then (d, s) else c
def px_cell (ch : Int32) (a b c : Int32 × Int32) : Int32 × Int32 := px_tb (px_tb (a.1 + ch, a.2) (b.1 + 1) b.2) (c.1 + 1) c.2
theorem px_ref {x o i a b c l1 l2 g0 g1 g2 : Int32} (ha : 0 ≤ a) (hb : 0 ≤ b) (hc : 0 ≤ c) (e1 : l1 = if x < o then x else o) (e2 : l2 = if i < l1 then i else l1)
    (f0 : g0 = if x = l2 ∧ -1 < a then a else -1) (f1 : g1 = if o = l2 ∧ g0 < b then b else g0) (f2 : g2 = if i = l2 ∧ g1 < c then c else g1) :
    px_tb (px_tb (x, a) o b) i c = (l2, g2) := by
  have h0 : ((0 : Int32).toInt) = 0 := rfl
  have h1 : ((-1 : Int32).toInt) = -1 := rfl
  subst e1
  by_cases c1 : x < o
  · rw [if_pos c1] at e2
    by_cases c2 : i < x
    · rw [if_pos c2] at e2; subst e2
      grind [px_tb, px_lt, px_le, px_eq]
    · rw [if_neg c2] at e2; subst e2
      grind [px_tb, px_lt, px_le, px_eq]
  · rw [if_neg c1] at e2
    by_cases c2 : i < o
    · rw [if_pos c2] at e2; subst e2
      grind [px_tb, px_lt, px_le, px_eq]
    · rw [if_neg c2] at e2; subst e2
      grind [px_tb, px_lt, px_le, px_eq]
-- ===== the search: rows =====
def px_next (p : Nat → Int32) (sg : Int32) (fst : Int32 × Int32) (prev : Nat → Int32 × Int32) : Nat → Int32 × Int32
  | 0 => fst
  | i + 1 => px_cell (if p i = sg then 0 else 1) (prev i) (px_next p sg fst prev i) (prev (i + 1))
def px_fst (mode : Int32) (j : Nat) : Int32 × Int32 := if mode = 2 then (0, nI j) else (nI j, 0)
def px_row (p t : Nat → Int32) (mode : Int32) : Nat → Nat → Int32 × Int32
  | 0 => fun i => (nI i, 0)
  | j + 1 => px_next p (t j) (px_fst mode (j + 1)) (px_row p t mode j)
theorem px_tb_in {P : Int32 → Prop} (c : Int32 × Int32) (d s : Int32) (h1 : P c.2) (h2 : P s) : P (px_tb c d s).2 := by
  unfold px_tb; split <;> assumption
theorem px_cell_in {P : Int32 → Prop} {ch : Int32} {a b c : Int32 × Int32} (h1 : P a.2) (h2 : P b.2) (h3 : P c.2) : P (px_cell ch a b c).2 := px_tb_in _ _ _ (px_tb_in _ _ _ h1 h2) h3
theorem px_next_in {P : Int32 → Prop} {p : Nat → Int32} {sg : Int32} {fst : Int32 × Int32} {prev : Nat → Int32 × Int32} (h0 : P fst.2) (h : ∀ i, P (prev i).2) : ∀ i, P (px_next p sg fst prev i).2
  | 0 => h0
  | i + 1 => px_cell_in (h i) (px_next_in h0 h i) (h (i + 1))
def px_to (j : Nat) (v : Int32) : Prop := ∃ a : Nat, a ≤ j ∧ v = nI a
theorem px_to_pos {j : Nat} {v : Int32} (hj : j < 2 ^ 31) (h : px_to j v) : 0 ≤ v := by
  obtain ⟨a, h1, rfl⟩ := h; exact nI_pos' (by omega)
theorem px_fst_in {mode : Int32} {j : Nat} : px_to j (px_fst mode j).2 := by
  unfold px_fst; split
  · exact ⟨j, Nat.le_refl _, rfl⟩
  · exact ⟨0, Nat.zero_le _, rfl⟩
theorem px_row_in {p t : Nat → Int32} {mode : Int32} : ∀ j i, px_to j (px_row p t mode j i).2
  | 0, _ => ⟨0, Nat.le_refl _, rfl⟩
  | j + 1, i => px_next_in px_fst_in (fun i => by obtain ⟨a, h1, h2⟩ := px_row_in (p := p) (t := t) (mode := mode) j i; exact ⟨a, by omega, h2⟩) i
-- ===== the search: what is found =====
/-- (how many, where they end, their distances, their starts) -/
abbrev px_F : Type := Nat × (Nat → Int32) × (Nat → Int32) × (Nat → Int32)
def px_keep (n : Nat) (mode bound : Int32) (pl : Nat) (v : Int32 × Int32) (s : px_F) : px_F :=
  if (¬ mode = 0 ∨ pl = n) ∧ v.1 ≤ bound then (s.1 + 1, upd s.2.1 s.1 (nI pl), upd s.2.2.1 s.1 v.1, upd s.2.2.2 s.1 v.2) else s
def px_fnd (m n : Nat) (p t : Nat → Int32) (mode bound : Int32) (s : px_F) : Nat → px_F
  | 0 => px_keep n mode bound 0 (px_row p t mode 0 m) (0, s.2)
  | j + 1 => px_keep n mode bound (j + 1) (px_row p t mode (j + 1) m) (px_fnd m n p t mode bound s j)
theorem px_keep_le {n pl k : Nat} {mode bound : Int32} {v : Int32 × Int32} {s : px_F} (h : s.1 ≤ k) : (px_keep n mode bound pl v s).1 ≤ k + 1 := by
  unfold px_keep; split
  · exact Nat.succ_le_succ h
  · exact Nat.le_succ_of_le h
theorem px_fnd_le {m n : Nat} {p t : Nat → Int32} {mode bound : Int32} {s : px_F} : ∀ j, (px_fnd m n p t mode bound s j).1 ≤ j + 1
  | 0 => px_keep_le (Nat.le_refl 0)
  | j + 1 => px_keep_le (px_fnd_le j)
/-- what was found lies in a text of n signs -/
def px_ok (s : px_F) (n : Nat) : Prop := ∀ k, k < s.1 → ∃ a b : Nat, a ≤ b ∧ b ≤ n ∧ s.2.1 k = nI b ∧ s.2.2.2 k = nI a
theorem px_keep_ok {n pl N : Nat} {mode bound : Int32} {v : Int32 × Int32} {s : px_F} (h : px_ok s N) (h1 : pl ≤ N) (h2 : px_to pl v.2) : px_ok (px_keep n mode bound pl v s) N := by
  unfold px_keep; split
  · intro k hk
    by_cases e : k = s.1
    · subst e
      obtain ⟨a, h3, h4⟩ := h2
      exact ⟨a, pl, h3, h1, pk_us, pk_us.trans h4⟩
    · obtain ⟨a, b, q1, q2, q3, q4⟩ := h k (by have : k < s.1 + 1 := hk; omega)
      exact ⟨a, b, q1, q2, (pk_un e).trans q3, (pk_un e).trans q4⟩
  · exact h
theorem px_fnd_ok {m n : Nat} {p t : Nat → Int32} {mode bound : Int32} {s : px_F} : ∀ j, j ≤ n → px_ok (px_fnd m n p t mode bound s j) n
  | 0, h => px_keep_ok (fun k hk => absurd hk (Nat.not_lt_zero k)) h (px_row_in 0 m)
  | j + 1, h => px_keep_ok (px_fnd_ok j (by omega)) h (px_row_in (j + 1) m)
-- ===== the script =====
def px_ch (p t : Nat → Int32) (i j : Nat) : Nat := if p i = t j then 0 else 1
theorem px_ch_le (p t : Nat → Int32) (i j : Nat) : px_ch p t i j ≤ 1 := by unfold px_ch; split <;> omega
def px_ern (f : Nat → Nat) (a : Nat) (ch : Nat → Nat) : Nat → Nat
  | 0 => a + 1
  | b + 1 => min (f b + ch b) (min (f (b + 1)) (px_ern f a ch b) + 1)
/-- the distance of the last a signs of a pattern of m to the last b of the text ahead of place en -/
def px_er (p t : Nat → Int32) (m en : Nat) : Nat → Nat → Nat
  | 0 => fun b => b
  | a + 1 => px_ern (px_er p t m en a) a (fun b => px_ch p t (m - 1 - a) (en - 1 - b))
theorem px_er_0 (p t : Nat → Int32) (m en b : Nat) : px_er p t m en 0 b = b := rfl
theorem px_er_b0 (p t : Nat → Int32) (m en : Nat) : ∀ a, px_er p t m en a 0 = a
  | 0 => rfl
  | _ + 1 => rfl
theorem px_er_s (p t : Nat → Int32) (m en a b : Nat) : px_er p t m en (a + 1) (b + 1) = min (px_er p t m en a b + px_ch p t (m - 1 - a) (en - 1 - b)) (min (px_er p t m en a (b + 1)) (px_er p t m en (a + 1) b) + 1) := rfl
theorem px_ern_le {f : Nat → Nat} {a : Nat} {ch : Nat → Nat} (h : ∀ b, f b ≤ a + b) : ∀ b, px_ern f a ch b ≤ a + 1 + b
  | 0 => by unfold px_ern; omega
  | b + 1 => by unfold px_ern; have := h (b + 1); omega
theorem px_er_le (p t : Nat → Int32) (m en : Nat) : ∀ a b, px_er p t m en a b ≤ a + b
  | 0, b => by rw [px_er_0]; omega
  | a + 1, b => px_ern_le (px_er_le p t m en a) b
/-- the step at place i of the pattern, j of the text -/
def px_st (p t : Nat → Int32) (m en i j : Nat) : Int32 :=
  if m ≤ i then 3 else if en ≤ j then 2 else if px_er p t m en (m - i) (en - j) = px_er p t m en (m - (i + 1)) (en - (j + 1)) + px_ch p t i j then nI (px_ch p t i j) else if px_er p t m en (m - i) (en - j) = px_er p t m en (m - (i + 1)) (en - j) + 1 then 2 else 3
/-- the places behind k steps -/
def px_tr (p t : Nat → Int32) (m st en : Nat) : Nat → Nat × Nat
  | 0 => (0, st)
  | k + 1 => ((if px_st p t m en (px_tr p t m st en k).1 (px_tr p t m st en k).2 = 3 then (px_tr p t m st en k).1 else (px_tr p t m st en k).1 + 1), (if px_st p t m en (px_tr p t m st en k).1 (px_tr p t m st en k).2 = 2 then (px_tr p t m st en k).2 else (px_tr p t m st en k).2 + 1))
/-- a script of L steps: f holds them -/
def px_sc (p t : Nat → Int32) (m st en L : Nat) (f : Nat → Int32) : Prop :=
  (m ≤ (px_tr p t m st en L).1 ∧ en ≤ (px_tr p t m st en L).2) ∧ (∀ k, k < L → ¬ (m ≤ (px_tr p t m st en k).1 ∧ en ≤ (px_tr p t m st en k).2)) ∧ ∀ k, k < L → f k = px_st p t m en (px_tr p t m st en k).1 (px_tr p t m st en k).2
theorem px_sc_one {p t : Nat → Int32} {m st en L L' : Nat} {f f' : Nat → Int32} (h : px_sc p t m st en L f) (h' : px_sc p t m st en L' f') : L = L' ∧ ∀ k, k < L → f k = f' k := by
  have e : L = L' := by
    rcases Nat.lt_trichotomy L L' with q | q | q
    · exact absurd h.1 (h'.2.1 L q)
    · exact q
    · exact absurd h'.1 (h.2.1 L' q)
  subst e
  exact ⟨rfl, fun k hk => by rw [h.2.2 k hk, h'.2.2 k hk]⟩
/-- the places stay in range, and a step moves at least one -/
theorem px_tr_in {p t : Nat → Int32} {m st en : Nat} (hs : st ≤ en) : ∀ k, (∀ i, i < k → ¬ (m ≤ (px_tr p t m st en i).1 ∧ en ≤ (px_tr p t m st en i).2)) → (px_tr p t m st en k).1 ≤ m ∧ st ≤ (px_tr p t m st en k).2 ∧ (px_tr p t m st en k).2 ≤ en ∧ st + k ≤ (px_tr p t m st en k).1 + (px_tr p t m st en k).2
  | 0, _ => ⟨Nat.zero_le _, Nat.le_refl _, hs, by show st + 0 ≤ 0 + st; omega⟩
  | k + 1, h => by
    obtain ⟨h1, h2, h3, h4⟩ := px_tr_in hs k (fun i hi => h i (by omega))
    have h5 := h k (by omega)
    have n23 : ¬ (2 : Int32) = 3 := by decide
    have n32 : ¬ (3 : Int32) = 2 := by decide
    simp only [px_tr]
    generalize (px_tr p t m st en k).1 = i at *
    generalize (px_tr p t m st en k).2 = j at *
    unfold px_st
    by_cases c1 : m ≤ i
    · rw [if_pos c1, if_pos rfl, if_neg n32]; omega
    · rw [if_neg c1]
      by_cases c2 : en ≤ j
      · rw [if_pos c2, if_pos rfl, if_neg n23]; omega
      · rw [if_neg c2]
        have hc : ∀ c : Nat, c ≤ 1 → ¬ nI c = 3 ∧ ¬ nI c = 2 := by
          intro c hc
          rcases (show c = 0 ∨ c = 1 by omega) with rfl | rfl <;> decide
        by_cases c3 : px_er p t m en (m - i) (en - j) = px_er p t m en (m - (i + 1)) (en - (j + 1)) + px_ch p t i j
        · rw [if_pos c3, if_neg (hc _ (px_ch_le p t i j)).1, if_neg (hc _ (px_ch_le p t i j)).2]; omega
        · rw [if_neg c3]
          by_cases c4 : px_er p t m en (m - i) (en - j) = px_er p t m en (m - (i + 1)) (en - j) + 1
          · rw [if_pos c4, if_neg n23, if_pos rfl]; omega
          · rw [if_neg c4, if_pos rfl, if_neg n32]; omega
-- ===== signs of words =====
def px_sg (w : Int32) (k : Nat) : Int32 := (w.toUInt32 >>> ((nI (8 * k)).toUInt32 &&& Int32.toUInt32 31)).toInt32 &&& 255
/-- how many of the first k are signs -/
def px_nz (w : Int32) : Nat → Nat
  | 0 => 0
  | k + 1 => if px_sg w k = 0 then px_nz w k else px_nz w k + 1
/-- a row of signs, and the first k of w behind it -/
def px_pw (w : Int32) (s : Nat × (Nat → Int32)) : Nat → Nat × (Nat → Int32)
  | 0 => s
  | k + 1 => if px_sg w k = 0 then px_pw w s k else ((px_pw w s k).1 + 1, upd (px_pw w s k).2 (px_pw w s k).1 (px_sg w k))
theorem px_pw_n (w : Int32) (s : Nat × (Nat → Int32)) : ∀ k, (px_pw w s k).1 = s.1 + px_nz w k
  | 0 => rfl
  | k + 1 => by
    unfold px_pw px_nz
    split
    · exact px_pw_n w s k
    · show (px_pw w s k).1 + 1 = _
      rw [px_pw_n w s k]; omega
theorem px_nz_s (w : Int32) (k : Nat) : px_nz w k ≤ px_nz w (k + 1) := by
  show px_nz w k ≤ if px_sg w k = 0 then px_nz w k else px_nz w k + 1
  split <;> omega
theorem px_nz_le (w : Int32) : ∀ k, px_nz w k ≤ k
  | 0 => Nat.le_refl _
  | k + 1 => by
    have := px_nz_le w k
    show (if px_sg w k = 0 then px_nz w k else px_nz w k + 1) ≤ k + 1
    split <;> omega
theorem px_nz_lt {w : Int32} {k : Nat} (hk : k < 4) (h : ¬ px_sg w k = 0) : px_nz w k + 1 ≤ px_nz w 4 := by
  have e : px_nz w (k + 1) = px_nz w k + 1 := if_neg h
  have m : ∀ j, k + 1 ≤ j → px_nz w (k + 1) ≤ px_nz w j := by
    intro j hj
    induction j with
    | zero => omega
    | succ j ih =>
      rcases Nat.lt_or_ge k j with q | q
      · exact Nat.le_trans (ih q) (px_nz_s w j)
      · have : j = k := by omega
        subst this; exact Nat.le_refl _
  have := m 4 (by omega)
  omega
-- ===== rows for the walks of the search =====
theorem px_us {f : Nat → Int32} {k : Nat} : upd f k (f k) = f := by
  funext j
  unfold upd
  split
  · rename_i h; rw [h]
  · rfl
theorem px_fst_e {mode v1 v2 : Int32} {j : Nat} (e1 : v1 = if mode = 2 then 0 else nI j) (e2 : v2 = if mode = 2 then nI j else 0) : (v1, v2) = px_fst mode j := by
  unfold px_fst
  by_cases h : mode = 2
  · rw [if_pos h] at e1 e2 ⊢; rw [e1, e2]
  · rw [if_neg h] at e1 e2 ⊢; rw [e1, e2]
theorem px_mv0 {op : Nat → Int32} {sg : Int32} {fst : Int32 × Int32} {prev : Nat → Int32 × Int32} {fn fl : Nat → Int32} {om : Nat} {v1 v2 : Int32} (h : ∀ k, k ≤ om → (fn k, fl k) = prev k) (hv : (v1, v2) = fst) :
    (∀ k, k ≤ 0 → (upd fn 0 v1 k, upd fl 0 v2 k) = px_next op sg fst prev k) ∧ ∀ k, 0 < k → k ≤ om → (upd fn 0 v1 k, upd fl 0 v2 k) = prev k := by
  refine ⟨fun k hk => ?_, fun k h1 h2 => ?_⟩
  · have : k = 0 := by omega
    subst this
    rw [pk_us, pk_us]; exact hv
  · rw [pk_un (by omega), pk_un (by omega)]; exact h k h2
theorem px_mv {op : Nat → Int32} {sg : Int32} {fst : Int32 × Int32} {prev : Nat → Int32 × Int32} {fn fl fn1 fl1 fn2 fl2 fn3 fl3 : Nat → Int32} {i om : Nat} {x4 x5 ch : Int32} {t1 t2 : Int32 × Int32}
    (h1 : ∀ k, k ≤ i → (fn k, fl k) = px_next op sg fst prev k) (h2 : ∀ k, i < k → k ≤ om → (fn k, fl k) = prev k) (hi : i + 1 ≤ om) (hx : (x4, x5) = prev i) (hch : ch = if op i = sg then 0 else 1)
    (e1 : fn1 = upd fn (i + 1) (x4 + ch)) (e2 : fl1 = upd fl (i + 1) x5) (e3 : t1 = px_tb (fn1 (i + 1), fl1 (i + 1)) (fn1 i + 1) (fl1 i)) (e4 : fn2 = upd fn1 (i + 1) t1.1) (e5 : fl2 = upd fl1 (i + 1) t1.2)
    (e6 : t2 = px_tb (fn2 (i + 1), fl2 (i + 1)) (fn (i + 1) + 1) (fl (i + 1))) (e7 : fn3 = upd fn2 (i + 1) t2.1) (e8 : fl3 = upd fl2 (i + 1) t2.2) :
    (∀ k, k ≤ i + 1 → (fn3 k, fl3 k) = px_next op sg fst prev k) ∧ (∀ k, i + 1 < k → k ≤ om → (fn3 k, fl3 k) = prev k) ∧ (fn (i + 1), fl (i + 1)) = prev (i + 1) := by
  have q3 := h2 (i + 1) (by omega) hi
  have n1 : i ≠ i + 1 := by omega
  refine ⟨fun k hk => ?_, fun k hk hk2 => ?_, q3⟩
  · by_cases hki : k = i + 1
    · subst hki
      have a1 : fn1 (i + 1) = x4 + ch := by rw [e1, pk_us]
      have a2 : fl1 (i + 1) = x5 := by rw [e2, pk_us]
      have a3 : fn1 i = fn i := by rw [e1, pk_un n1]
      have a4 : fl1 i = fl i := by rw [e2, pk_un n1]
      have a5 : fn2 (i + 1) = t1.1 := by rw [e4, pk_us]
      have a6 : fl2 (i + 1) = t1.2 := by rw [e5, pk_us]
      have b1 := h1 i (Nat.le_refl _)
      rw [e7, e8, pk_us, pk_us]
      show t2 = px_cell (if op i = sg then 0 else 1) (prev i) (px_next op sg fst prev i) (prev (i + 1))
      rw [← b1, ← q3, ← hx, ← hch, e6, a5, a6]
      show px_tb t1 _ _ = _
      rw [e3, a1, a2, a3, a4]
      rfl
    · have hk1 : k ≤ i := by omega
      rw [e7, e8, pk_un hki, pk_un hki, e4, e5, pk_un hki, pk_un hki, e1, e2, pk_un hki, pk_un hki]
      exact h1 k hk1
  · have hki : k ≠ i + 1 := by omega
    rw [e7, e8, pk_un hki, pk_un hki, e4, e5, pk_un hki, pk_un hki, e1, e2, pk_un hki, pk_un hki]
    exact h2 k (by omega) hk2
/-- the least distance of the first k -/
def px_least (d : Nat → Int32) : Nat → Int32
  | 0 => -1
  | k + 1 => if px_least d k = -1 ∨ d k < px_least d k then d k else px_least d k
/-- the signs of four words behind a row -/
def px_f (wa wb wc wd : Int32) (s : Nat × (Nat → Int32)) : Nat × (Nat → Int32) := px_pw wd (px_pw wc (px_pw wb (px_pw wa s 4) 4) 4) 4
def px_fn (wa wb wc wd : Int32) : Nat := px_nz wa 4 + px_nz wb 4 + px_nz wc 4 + px_nz wd 4
theorem px_f_n (wa wb wc wd : Int32) (s : Nat × (Nat → Int32)) : (px_f wa wb wc wd s).1 = s.1 + px_fn wa wb wc wd := by
  unfold px_f px_fn
  rw [px_pw_n, px_pw_n, px_pw_n, px_pw_n]; omega
theorem px_cl {p : Nat → Int32} {sg : Int32} {fst : Int32 × Int32} {prev : Nat → Int32 × Int32} {c1 c2 b1 b2 : Nat → Int32} {i m : Nat} (h : ∀ k, k ≤ i → (c1 k, c2 k) = px_next p sg fst prev k) (hb : ∀ k, k ≤ m → (b1 k, b2 k) = prev k) (hi : i + 1 ≤ m) :
    ∀ k, k ≤ i + 1 → (upd c1 (i + 1) (px_cell (if p i = sg then 0 else 1) (b1 i, b2 i) (c1 i, c2 i) (b1 (i + 1), b2 (i + 1))).1 k, upd c2 (i + 1) (px_cell (if p i = sg then 0 else 1) (b1 i, b2 i) (c1 i, c2 i) (b1 (i + 1), b2 (i + 1))).2 k) = px_next p sg fst prev k := by
  intro k hk
  by_cases e : k = i + 1
  · subst e
    rw [pk_us, pk_us]
    show px_cell _ _ _ _ = px_cell _ (prev i) (px_next p sg fst prev i) (prev (i + 1))
    rw [hb i (by omega), hb (i + 1) hi, h i (Nat.le_refl _)]
  · rw [pk_un e, pk_un e]; exact h k (by omega)
theorem px_cpy_0 {f g : Nat → Int32} : va_cpy f g 0 0 0 = g := by
  funext k; unfold va_cpy; rw [if_neg (by omega)]
theorem px_cpy_s {f g : Nat → Int32} {k : Nat} : upd (va_cpy f g 0 0 k) k (f k) = va_cpy f g 0 0 (k + 1) := by
  funext j
  unfold upd va_cpy
  by_cases h : j = k
  · subst h; rw [if_pos rfl, if_pos (by omega)]; congr 1; omega
  · rw [if_neg h]
    by_cases h2 : j < k
    · rw [if_pos (by omega), if_pos (by omega)]
    · rw [if_neg (by omega), if_neg (by omega)]
theorem px_cpy_in {f g : Nat → Int32} {n j : Nat} (h : j < n) : va_cpy f g 0 0 n j = f j := by
  unfold va_cpy; rw [if_pos (by omega)]; congr 1; omega
/-- a row depends on the first m signs of the pattern and j of the text -/
theorem px_next_c {p p' : Nat → Int32} {sg : Int32} {fst : Int32 × Int32} {prev prev' : Nat → Int32 × Int32} {m : Nat} (hp : ∀ i, i < m → p i = p' i) (h : ∀ i, i ≤ m → prev i = prev' i) : ∀ i, i ≤ m → px_next p sg fst prev i = px_next p' sg fst prev' i
  | 0, _ => rfl
  | i + 1, hi => by
    show px_cell _ (prev i) (px_next p sg fst prev i) (prev (i + 1)) = px_cell _ (prev' i) (px_next p' sg fst prev' i) (prev' (i + 1))
    rw [hp i (by omega), h i (by omega), h (i + 1) hi, px_next_c hp h i (by omega)]
theorem px_row_c {p p' t t' : Nat → Int32} {mode : Int32} {m n : Nat} (hp : ∀ i, i < m → p i = p' i) (ht : ∀ j, j < n → t j = t' j) : ∀ j, j ≤ n → ∀ i, i ≤ m → px_row p t mode j i = px_row p' t' mode j i
  | 0, _ => fun _ _ => rfl
  | j + 1, hj => fun i hi => by
    show px_next p (t j) _ (px_row p t mode j) i = px_next p' (t' j) _ (px_row p' t' mode j) i
    rw [ht j (by omega)]
    exact px_next_c hp (px_row_c hp ht j (by omega)) i hi
theorem px_fnd_c {p p' t t' : Nat → Int32} {mode bound : Int32} {m n : Nat} {s : px_F} (hp : ∀ i, i < m → p i = p' i) (ht : ∀ j, j < n → t j = t' j) : ∀ j, j ≤ n → px_fnd m n p t mode bound s j = px_fnd m n p' t' mode bound s j
  | 0, _ => rfl
  | j + 1, hj => by
    show px_keep n mode bound (j + 1) (px_row p t mode (j + 1) m) (px_fnd m n p t mode bound s j) = px_keep n mode bound (j + 1) (px_row p' t' mode (j + 1) m) (px_fnd m n p' t' mode bound s j)
    rw [px_row_c hp ht (j + 1) hj m (Nat.le_refl _), px_fnd_c hp ht j (by omega)]
