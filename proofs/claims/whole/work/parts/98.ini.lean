theorem ini_row : ∀ a, (¬ (19 ≤ a ∧ a ≤ 28)) → a ≠ 84 → a ≠ 111 → a ≠ 117 → xm0.1 a = fun _ => 0 := by
  intro a h1 h2 h3 h4
  unfold xm0
  dsimp only
  split <;> first | rfl | (exfalso; omega)
theorem ini_mark : ∀ p, p < 10 → xm0.1 (19 + p) = xfl (fun _ => 0) 5 (-1) := by
  intro p hp
  have : p = 0 ∨ p = 1 ∨ p = 2 ∨ p = 3 ∨ p = 4 ∨ p = 5 ∨ p = 6 ∨ p = 7 ∨ p = 8 ∨ p = 9 := by omega
  rcases this with e | e | e | e | e | e | e | e | e | e <;> subst e <;> rfl
theorem ini_rel : xRel 0 0 0 0 0 0 (fun _ => 0) xm0.1 := by
  have R : ∀ a, (¬ (19 ≤ a ∧ a ≤ 28)) → a ≠ 84 → a ≠ 111 → a ≠ 117 → ∀ k, xm0.1 a k = 0 := fun a h1 h2 h3 h4 k => by rw [ini_row a h1 h2 h3 h4]
  refine ⟨⟨⟨by omega, by omega, by omega, by omega, by omega⟩, ⟨rfl, rfl⟩, ⟨rfl, rfl⟩, ⟨rfl, rfl⟩, ⟨rfl, rfl⟩, rfl, rfl⟩, fun i hi => by omega, fun k hk => ?_, fun p hp => ?_, ⟨fun l hl => by omega, fun l hl => ?_⟩, ⟨fun r hr => ⟨rfl, rfl⟩, rfl⟩, fun p hp w hw => ?_, fun p hp => rfl, fun k hk => by omega, fun e he => by omega, fun e h1 h2 f hf => R (59 + e) (by omega) (by omega) (by omega) (by omega) f⟩
  · rw [R ag_facts_kindYears (by decide) (by decide) (by decide) (by decide), R am_kindYears (by decide) (by decide) (by decide) (by decide), R ag_facts_kindChanges (by decide) (by decide) (by decide) (by decide), R am_kindChanges (by decide) (by decide) (by decide) (by decide)]
    exact ⟨⟨rfl, by decide, by decide⟩, rfl, by decide, by decide⟩
  · show xfl (fun _ => 0) 10 1 p = xfl (fun _ => 0) 10 1 p ∧ xrg (xfl (fun _ => 0) 10 1 p) 1 20
    unfold xfl
    rw [if_pos hp]
    exact ⟨rfl, by decide, by decide⟩
  · rw [R ag_letters_state (by decide) (by decide) (by decide) (by decide), R am_proofs (by decide) (by decide) (by decide) (by decide)]
    exact ⟨⟨rfl, by decide, by decide⟩, fun _ => rfl⟩
  · rw [ini_mark p hp]
    have e : xm0.1 am_marks (5 * p + w) = -1 := by
      show xfl (fun _ => 0) 50 (-1) (5 * p + w) = -1
      unfold xfl
      rw [if_pos (by omega)]
    rw [e]
    unfold xfl
    rw [if_pos hw]
    exact ⟨rfl, by decide, by decide⟩
theorem ini_txt : xTxt xm0.1 := by
  refine ⟨[], 0, Or.inl rfl, rfl, ⟨by decide, by decide, fun l h => by cases h⟩, ⟨rfl, fun i l h => by cases h⟩, rfl, fun i l h => by cases h⟩
theorem ini_inv : xInv 0 xm0 := ⟨⟨0, 0, 0, 0, 0, fun _ => 0, ini_rel⟩, ini_txt, rfl⟩
theorem law_of (PT : ∀ t m, t ≤ 600 → xInv t m → xPairX t m) (L : Nat) (xs : Nat → Int32) (hL : L ≤ 3584) : ∃ m', F_L_law L xs xm0 = some (1, m') := by
  unfold F_L_law
  exact law_lp PT hL xs 520 0 xfuel xm0 (by omega) (by decide) ini_inv
