-- ===== rows for the walks of Fitting =====
section
variable {o x fl ah : Int32} {sc h f h' f' : Nat → Int32} {a1 a2 A1 A2 : Nat → Int32} {j nn : Nat} {x8 w9 W9 : Int32}
theorem pf_ts (h1 : ∀ k, k ≤ j → a1 k = (pf_cs o x fl ah sc h f k).1 ∧ a2 k = (pf_cs o x fl ah sc h f k).2.1) (h2 : ∀ k, j < k → k ≤ nn → a1 k = h k ∧ a2 k = f k) (hj : j + 1 ≤ nn) (e8 : x8 = h j) (e9 : w9 = (pf_cs o x fl ah sc h f j).2.2)
    (eA2 : A2 = upd a2 (j + 1) (pf_mx (a2 (j + 1)) (a1 (j + 1) - o) - x)) (eW : W9 = pf_mx w9 (a1 j - o) - x) (eA1 : A1 = upd a1 (j + 1) (pf_mx (pf_mx (x8 + sc j) (pf_mx (A2 (j + 1)) W9)) fl)) :
    (∀ k, k ≤ j + 1 → A1 k = (pf_cs o x fl ah sc h f k).1 ∧ A2 k = (pf_cs o x fl ah sc h f k).2.1) ∧ (∀ k, j + 1 < k → k ≤ nn → A1 k = h k ∧ A2 k = f k) ∧ W9 = (pf_cs o x fl ah sc h f (j + 1)).2.2 ∧ a1 (j + 1) = h (j + 1) := by
  obtain ⟨q1, q2⟩ := h2 (j + 1) (by omega) hj
  obtain ⟨q3, q4⟩ := h1 j (Nat.le_refl _)
  have r2 : A2 (j + 1) = (pf_cs o x fl ah sc h f (j + 1)).2.1 := by
    rw [eA2, pk_us, q1, q2]; rfl
  have r3 : W9 = (pf_cs o x fl ah sc h f (j + 1)).2.2 := by
    rw [eW, e9, q3]; rfl
  have r1 : A1 (j + 1) = (pf_cs o x fl ah sc h f (j + 1)).1 := by
    rw [eA1, pk_us, r2, r3, e8]; rfl
  refine ⟨fun k hk => ?_, fun k hk hk2 => ?_, r3, q1⟩
  · by_cases e : k = j + 1
    · subst e; exact ⟨r1, r2⟩
    · rw [eA1, eA2, pk_un e, pk_un e]; exact h1 k (by omega)
  · have e : k ≠ j + 1 := by omega
    rw [eA1, eA2, pk_un e, pk_un e]; exact h2 k (by omega) hk2
theorem pf_ts0 : (∀ k, k ≤ 0 → upd h 0 ah k = (pf_cs o x fl ah sc h f k).1 ∧ f k = (pf_cs o x fl ah sc h f k).2.1) ∧ (∀ k, 0 < k → k ≤ nn → upd h 0 ah k = h k ∧ f k = f k) := by
  refine ⟨fun k hk => ?_, fun k h1 h2 => ⟨pk_un (by omega), rfl⟩⟩
  have : k = 0 := by omega
  subst this
  exact ⟨pk_us, rfl⟩
theorem pf_cs_c (hc : ∀ k, k ≤ nn → h k = h' k ∧ f k = f' k) : ∀ k, k ≤ nn → pf_cs o x fl ah sc h f k = pf_cs o x fl ah sc h' f' k
  | 0, _ => by unfold pf_cs; rw [(hc 0 (Nat.zero_le _)).2]
  | k + 1, hk => by
    unfold pf_cs
    rw [pf_cs_c hc k (by omega), (hc k (by omega)).1, (hc (k + 1) hk).1, (hc (k + 1) hk).2]
end
