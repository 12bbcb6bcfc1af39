-- ===== rows for the walks of the script =====
/-- a counter that falls below 0 -/
theorem dn_lt {x : Int32} {q : Nat} (h : x = nI q + (-1)) (hq : q ≤ 1000) (c : x < 0) : q = 0 := by
  cases q with
  | zero => rfl
  | succ i =>
    rw [pk_m1] at h
    rw [h] at c
    exact absurd c (nI_pos (by omega))
theorem dn_ge {x : Int32} {q : Nat} (h : x = nI q + (-1)) (hq : q ≤ 1000) (c : ¬ x < 0) : ∃ i : Nat, q = i + 1 ∧ x = nI i := by
  cases q with
  | zero => exact absurd (by rw [h]; decide) c
  | succ i => exact ⟨i, rfl, by rw [h, pk_m1]⟩
theorem px_st_r {op ot : Nat → Int32} {om st n i j : Nat} : px_st op ot om (st + n) i (st + j) = if om ≤ i then 3 else if n ≤ j then 2 else if px_er op ot om (st + n) (om - i) (n - j) = px_er op ot om (st + n) (om - (i + 1)) (n - (j + 1)) + px_ch op ot i (st + j) then nI (px_ch op ot i (st + j)) else if px_er op ot om (st + n) (om - i) (n - j) = px_er op ot om (st + n) (om - (i + 1)) (n - j) + 1 then 2 else 3 := by
  unfold px_st
  have e1 : st + n - (st + j) = n - j := by omega
  have e2 : st + n - (st + j + 1) = n - (j + 1) := by omega
  rw [e1, e2]
  by_cases h : n ≤ j
  · rw [if_pos h, if_pos (show st + n ≤ st + j by omega)]
  · rw [if_neg h, if_neg (show ¬ st + n ≤ st + j by omega)]
section
variable {p t : Nat → Int32} {m st en k i j : Nat}
theorem px_tr_3 (h : px_tr p t m st en k = (i, j)) (hs : px_st p t m en i j = 3) : px_tr p t m st en (k + 1) = (i, j + 1) := by
  unfold px_tr
  rw [h]
  show ((if px_st p t m en i j = 3 then i else i + 1), (if px_st p t m en i j = 2 then j else j + 1)) = _
  rw [hs, if_pos rfl, if_neg (by decide)]
theorem px_tr_2 (h : px_tr p t m st en k = (i, j)) (hs : px_st p t m en i j = 2) : px_tr p t m st en (k + 1) = (i + 1, j) := by
  unfold px_tr
  rw [h]
  show ((if px_st p t m en i j = 3 then i else i + 1), (if px_st p t m en i j = 2 then j else j + 1)) = _
  rw [hs, if_neg (by decide), if_pos rfl]
theorem px_tr_1 (h : px_tr p t m st en k = (i, j)) (hs : px_st p t m en i j = 1) : px_tr p t m st en (k + 1) = (i + 1, j + 1) := by
  unfold px_tr
  rw [h]
  show ((if px_st p t m en i j = 3 then i else i + 1), (if px_st p t m en i j = 2 then j else j + 1)) = _
  rw [hs, if_neg (by decide), if_neg (by decide)]
theorem px_tr_0 (h : px_tr p t m st en k = (i, j)) (hs : px_st p t m en i j = 0) : px_tr p t m st en (k + 1) = (i + 1, j + 1) := by
  unfold px_tr
  rw [h]
  show ((if px_st p t m en i j = 3 then i else i + 1), (if px_st p t m en i j = 2 then j else j + 1)) = _
  rw [hs, if_neg (by decide), if_neg (by decide)]
theorem px_un_s (h : px_tr p t m st en k = (i, j)) (hu : ∀ k', k' < k → ¬ (m ≤ (px_tr p t m st en k').1 ∧ en ≤ (px_tr p t m st en k').2)) (hn : ¬ (m ≤ i ∧ en ≤ j)) : ∀ k', k' < k + 1 → ¬ (m ≤ (px_tr p t m st en k').1 ∧ en ≤ (px_tr p t m st en k').2) := by
  intro k' hk
  rcases Nat.lt_or_ge k' k with q | q
  · exact hu k' q
  · have e : k' = k := by omega
    subst e
    rw [h]; exact hn
theorem px_sc_s {f : Nat → Int32} {v : Int32} (h : px_tr p t m st en k = (i, j)) (hf : ∀ k', k' < k → f k' = px_st p t m en (px_tr p t m st en k').1 (px_tr p t m st en k').2) (hs : px_st p t m en i j = v) : ∀ k', k' < k + 1 → upd f k v k' = px_st p t m en (px_tr p t m st en k').1 (px_tr p t m st en k').2 := by
  intro k' hk
  by_cases e : k' = k
  · subst e
    rw [pk_us, h]; exact hs.symm
  · rw [pk_un e]; exact hf k' (by omega)
end
section
variable {op ot : Nat → Int32} {om st n i j : Nat}
theorem px_wb (hi : i ≤ om) (hj : j ≤ n) (h : i = om ∨ j = n) : nI (om - i + n - j) = nI (px_er op ot om (st + n) (om - i) (n - j)) := by
  rcases h with h | h
  · subst h
    rw [Nat.sub_self, px_er_0]; congr 1; omega
  · subst h
    rw [Nat.sub_self, px_er_b0]; congr 1; omega
theorem px_erS (hi : i < om) (hj : j < n) : px_er op ot om (st + n) (om - i) (n - j) = min (px_er op ot om (st + n) (om - (i + 1)) (n - (j + 1)) + px_ch op ot i (st + j)) (min (px_er op ot om (st + n) (om - (i + 1)) (n - j)) (px_er op ot om (st + n) (om - i) (n - (j + 1))) + 1) := by
  have e1 : om - i = (om - (i + 1)) + 1 := by omega
  have e2 : n - j = (n - (j + 1)) + 1 := by omega
  rw [e1, e2, px_er_s]
  have e3 : om - 1 - (om - (i + 1)) = i := by omega
  have e4 : st + n - 1 - (n - (j + 1)) = st + j := by omega
  rw [e3, e4]
theorem px_ws {x1 x2 x3 ch : Int32} {l1 l2 : Int32} (hom : om ≤ 150) (hn : n ≤ 300) (hi : i < om) (hj : j < n) (h1 : x1 = nI (px_er op ot om (st + n) (om - (i + 1)) (n - (j + 1)))) (h2 : x2 = nI (px_er op ot om (st + n) (om - (i + 1)) (n - j))) (h3 : x3 = nI (px_er op ot om (st + n) (om - i) (n - (j + 1))))
    (hch : ch = if op i = ot (st + j) then 0 else 1) (e1 : l1 = if x1 + ch < x2 + 1 then x1 + ch else x2 + 1) (e2 : l2 = if x3 + 1 < l1 then x3 + 1 else l1) : l2 = nI (px_er op ot om (st + n) (om - i) (n - j)) := by
  have b1 := px_er_le op ot om (st + n) (om - (i + 1)) (n - (j + 1))
  have b2 := px_er_le op ot om (st + n) (om - (i + 1)) (n - j)
  have b3 := px_er_le op ot om (st + n) (om - i) (n - (j + 1))
  have bc := px_ch_le op ot i (st + j)
  have ec : ch = nI (px_ch op ot i (st + j)) := by
    rw [hch]; unfold px_ch; split <;> rfl
  rw [px_erS hi hj]
  generalize px_er op ot om (st + n) (om - (i + 1)) (n - (j + 1)) = a at *
  generalize px_er op ot om (st + n) (om - (i + 1)) (n - j) = b at *
  generalize px_er op ot om (st + n) (om - i) (n - (j + 1)) = d at *
  generalize px_ch op ot i (st + j) = g at *
  have q1 : x1 + ch = nI (a + g) := by rw [h1, ec, nI_add]
  have q2 : x2 + 1 = nI (b + 1) := by rw [h2, nI_1]
  have q3 : x3 + 1 = nI (d + 1) := by rw [h3, nI_1]
  rw [q1, q2] at e1
  rw [q3] at e2
  by_cases c1 : a + g < b + 1
  · rw [if_pos ((nI_ltI (by omega) (by omega)).mpr c1)] at e1
    rw [e1] at e2
    by_cases c2 : d + 1 < a + g
    · rw [if_pos ((nI_ltI (by omega) (by omega)).mpr c2)] at e2; rw [e2]; congr 1; omega
    · rw [if_neg (fun q => c2 ((nI_ltI (by omega) (by omega)).mp q))] at e2; rw [e2]; congr 1; omega
  · rw [if_neg (fun q => c1 ((nI_ltI (by omega) (by omega)).mp q))] at e1
    rw [e1] at e2
    by_cases c2 : d + 1 < b + 1
    · rw [if_pos ((nI_ltI (by omega) (by omega)).mpr c2)] at e2; rw [e2]; congr 1; omega
    · rw [if_neg (fun q => c2 ((nI_ltI (by omega) (by omega)).mp q))] at e2; rw [e2]; congr 1; omega
end
