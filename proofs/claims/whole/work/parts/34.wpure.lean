-- ===== rows for the walks of Script =====
theorem px_min {a b : Nat} (ha : a < 2 ^ 31) (hb : b < 2 ^ 31) : (if nI b < nI a then nI b else nI a) = nI (min a b) := by
  by_cases h : b < a
  · rw [if_pos ((nI_ltI hb ha).mpr h)]; congr 1; omega
  · rw [if_neg (fun q => h ((nI_ltI hb ha).mp q))]; congr 1; omega
theorem dn_0 (q : Nat) : nI q - 1 = nI q + (-1) := by rw [Int32.sub_eq_add_neg]
theorem dn_lts {x : Int32} {q st : Nat} (h : x = nI q + (-1)) (hq : q ≤ 1000) (hs : st ≤ 1000) (c : x < nI st) : q ≤ st := by
  cases q with
  | zero => omega
  | succ j =>
    rw [pk_m1] at h
    rw [h] at c
    have := (nI_ltI (by omega) (by omega)).mp c
    omega
theorem dn_ges {x : Int32} {q st : Nat} (h : x = nI q + (-1)) (hq : q ≤ 1000) (hs : st ≤ 1000) (c : ¬ x < nI st) : ∃ j : Nat, q = j + 1 ∧ x = nI j ∧ st ≤ j := by
  cases q with
  | zero =>
    refine absurd ?_ c
    rw [h, px_lt, nI_toInt (by omega)]
    have : (nI 0 + (-1)).toInt = -1 := by decide
    omega
  | succ j =>
    rw [pk_m1] at h
    refine ⟨j, rfl, h, ?_⟩
    rcases Nat.lt_or_ge j st with q | q
    · exact absurd (by rw [h]; exact nI_lt q (by omega)) c
    · exact q
theorem px_erA {op ot : Nat → Int32} {om en i j : Nat} (hi : i < om) (hj : j < en) : px_er op ot om en (om - i) (en - j) = min (px_er op ot om en (om - (i + 1)) (en - (j + 1)) + px_ch op ot i j) (min (px_er op ot om en (om - (i + 1)) (en - j)) (px_er op ot om en (om - i) (en - (j + 1))) + 1) := by
  have e1 : om - i = (om - (i + 1)) + 1 := by omega
  have e2 : en - j = (en - (j + 1)) + 1 := by omega
  rw [e1, e2, px_er_s]
  have e3 : om - 1 - (om - (i + 1)) = i := by omega
  have e4 : en - 1 - (en - (j + 1)) = j := by omega
  rw [e3, e4]
theorem px_tr_g {p t : Nat → Int32} {m st en k i j : Nat} (h : px_tr p t m st en k = (i, j)) : px_tr p t m st en (k + 1) = ((if px_st p t m en i j = 3 then i else i + 1), (if px_st p t m en i j = 2 then j else j + 1)) := by
  show ((if px_st p t m en (px_tr p t m st en k).1 (px_tr p t m st en k).2 = 3 then (px_tr p t m st en k).1 else (px_tr p t m st en k).1 + 1), (if px_st p t m en (px_tr p t m st en k).1 (px_tr p t m st en k).2 = 2 then (px_tr p t m st en k).2 else (px_tr p t m st en k).2 + 1)) = _
  rw [h]
/-- there is a script -/
theorem px_sc_ex {p t : Nat → Int32} {m st en : Nat} (hst : st ≤ en) : ∃ (L : Nat) (f : Nat → Int32), px_sc p t m st en L f ∧ L ≤ m + (en - st) := by
  have h : ∃ k, m ≤ (px_tr p t m st en k).1 ∧ en ≤ (px_tr p t m st en k).2 := by
    refine Classical.byContradiction fun hn => ?_
    have h := px_tr_in (p := p) (t := t) (m := m) (st := st) (en := en) hst (m + en + 1) (fun i _ hi => hn ⟨i, hi⟩)
    omega
  obtain ⟨L, h1, h2⟩ := pk_least _ h
  have h3 := px_tr_in (p := p) (t := t) (m := m) (st := st) (en := en) hst L h2
  exact ⟨L, fun k => px_st p t m en (px_tr p t m st en k).1 (px_tr p t m st en k).2, ⟨h1, h2, fun _ _ => rfl⟩, by omega⟩
