/-! the text that holds -/
/-- a cell of a line: a number, a part, a sign (0 +, 1 -, 2 <, 3 =, 4 and) -/
abbrev xTok := (Int32 ⊕ Nat) ⊕ Nat
/-- the class's cell -/
def tkC : xTok → Int32
  | .inl (.inl v) => v
  | .inl (.inr k) => -(Int32.ofNat (204 + k))
  | .inr 0 => -43
  | .inr 1 => -45
  | .inr 2 => -60
  | .inr 3 => -61
  | .inr _ => -203
/-- the reference's two -/
def tkO : xTok → Int32
  | .inl (.inl _) => 1
  | .inl (.inr _) => 2
  | .inr 0 => 3
  | .inr 1 => 4
  | .inr 2 => 5
  | .inr 3 => 6
  | .inr _ => 7
def tkA : xTok → Int32
  | .inl (.inl v) => v
  | .inl (.inr k) => Int32.ofNat k
  | .inr _ => 0
/-- a cell is sound -/
def tkG : xTok → Prop
  | .inl (.inl v) => 0 ≤ v
  | .inl (.inr k) => k < 6
  | .inr k => k < 5
/-- the code goes from d waiting to e waiting, never above 32 -/
def tkW : List xTok → Nat → Nat → Prop
  | [], d, e => d = e
  | .inl _ :: ts, d, e => d < 32 ∧ tkW ts (d + 1) e
  | .inr _ :: ts, d, e => 2 ≤ d ∧ tkW ts (d - 1) e
abbrev xLine := Nat × List xTok
/-- where line i begins in the class's code -/
def cAt : List xLine → Nat → Nat
  | _, 0 => 0
  | [], _ + 1 => 0
  | l :: ls, i + 1 => l.2.length + cAt ls i
def mAt : List xLine → Nat → Nat
  | _, 0 => 0
  | [], _ + 1 => 0
  | l :: ls, i + 1 => l.2.length + 1 + mAt ls i
/-- the class's cells: size and lines at a, code at b, ends at c, stars at d -/
def txC (I : xI) (a b c d : Nat) (ls : List xLine) : Prop :=
  I a fScript_lines = Int32.ofNat ls.length ∧ ∀ i l, ls[i]? = some l → I c i = Int32.ofNat (cAt ls i + l.2.length) ∧ I d i = Int32.ofNat l.1 ∧ ∀ j t, l.2[j]? = some t → I b (cAt ls i + j) = tkC t
/-- the reference's, half h -/
def txM (I : xI) (h : Nat) (ls : List xLine) : Prop :=
  I 93 h = Int32.ofNat ls.length ∧ ∀ i l, ls[i]? = some l → I 94 (16 * h + i) = Int32.ofNat l.1 ∧ I 95 (16 * h + i) = Int32.ofNat (660 * h + mAt ls i) ∧ (∀ j t, l.2[j]? = some t → I 96 (660 * h + mAt ls i + j) = tkO t ∧ I 97 (660 * h + mAt ls i + j) = tkA t) ∧ I 96 (660 * h + mAt ls i + l.2.length) = 0
/-- the lines are sound -/
def txG (ls : List xLine) : Prop := ls.length ≤ 16 ∧ cAt ls ls.length ≤ 600 ∧ ∀ l ∈ ls, l.1 ≤ 5 ∧ tkW l.2 0 1 ∧ ∀ t ∈ l.2, tkG t
def xTxt (I : xI) : Prop := ∃ ls h, (h = 0 ∨ h = 1) ∧ I 87 15 = Int32.ofNat h ∧ txG ls ∧ txC I 41 42 43 44 ls ∧ txM I h ls
theorem xTxt.mv {m m' : xMem} (k : xSameT m m') (h : xTxt m.1) : xTxt m'.1 := by
  obtain ⟨ls, hh, h0, h1, h2, h3, h4⟩ := h
  have R : ∀ a k', xtx a k' = true → m'.1 a k' = m.1 a k' := k.1
  refine ⟨ls, hh, h0, by rw [R 87 15 rfl]; exact h1, h2, ⟨by rw [R 41 _ rfl]; exact h3.1, fun i l hl => ?_⟩, by rw [R 93 _ rfl]; exact h4.1, fun i l hl => ?_⟩
  · obtain ⟨a1, a2, a3⟩ := h3.2 i l hl
    exact ⟨by rw [R 43 _ rfl]; exact a1, by rw [R 44 _ rfl]; exact a2, fun j t ht => by rw [R 42 _ rfl]; exact a3 j t ht⟩
  · obtain ⟨a1, a2, a3, a4⟩ := h4.2 i l hl
    exact ⟨by rw [R 94 _ rfl]; exact a1, by rw [R 95 _ rfl]; exact a2, fun j t ht => by rw [R 96 _ rfl, R 97 _ rfl]; exact a3 j t ht, by rw [R 96 _ rfl]; exact a4⟩
theorem cAt_le {ls : List xLine} : ∀ i, cAt ls i + i ≤ mAt ls i + i ∧ mAt ls i ≤ cAt ls i + i := by
  intro i
  induction i generalizing ls with
  | zero => simp [cAt, mAt]
  | succ i ih =>
    cases ls with
    | nil => simp [cAt, mAt]
    | cons l ls =>
      have := ih (ls := ls)
      simp only [cAt, mAt]
      omega
theorem cAt_s : ∀ {ls : List xLine} {i : Nat} {l : xLine}, ls[i]? = some l → cAt ls (i + 1) = cAt ls i + l.2.length ∧ mAt ls (i + 1) = mAt ls i + l.2.length + 1
  | [], i, l, h => by cases h
  | x :: xs, 0, l, h => by
    have : x = l := by simpa using h
    subst this
    simp [cAt, mAt]
  | x :: xs, i + 1, l, h => by
    have h' : xs[i]? = some l := by simpa using h
    obtain ⟨a, b⟩ := cAt_s h'
    simp only [cAt, mAt] at a b ⊢
    omega
theorem cAt_mono {ls : List xLine} : ∀ {i j : Nat}, i ≤ j → cAt ls i ≤ cAt ls j := by
  intro i j h
  induction i generalizing ls j with
  | zero => simp [cAt]
  | succ i ih =>
    cases ls with
    | nil => simp [cAt]
    | cons l ls =>
      obtain ⟨j', rfl⟩ : ∃ j', j = j' + 1 := ⟨j - 1, by omega⟩
      have := ih (ls := ls) (j := j') (by omega)
      simp only [cAt]
      omega
theorem cAt_end {ls : List xLine} (h : txG ls) {i : Nat} {l : xLine} (hl : ls[i]? = some l) : cAt ls i + l.2.length ≤ 600 ∧ mAt ls i + l.2.length ≤ 616 ∧ i < 16 := by
  have h1 := cAt_s hl
  have hi : i < ls.length := (List.getElem?_eq_some_iff.mp hl).1
  have h2 := cAt_mono (ls := ls) (show i + 1 ≤ ls.length by omega)
  have h3 := cAt_le (ls := ls) i
  obtain ⟨g1, g2, g3⟩ := h
  omega
/-! what a line is worth -/
def jn (k : Nat) (a b : Int32) : Int32 := match k with
  | 0 => a + b
  | 1 => a - b
  | 2 => if b ≤ a then 0 else 1
  | 3 => if a = b then 1 else 0
  | _ => if a = 0 then 0 else if b = 0 then 0 else 1
/-- the cells that wait, k of them in S, with code ts to come -/
def evl (N : Nat → Int32) : List xTok → (Nat → Int32) → Nat → (Nat → Int32)
  | [], S, _ => S
  | .inl (.inl v) :: ts, S, d => evl N ts (fun j => if j = d then v else S j) (d + 1)
  | .inl (.inr k) :: ts, S, d => evl N ts (fun j => if j = d then N k else S j) (d + 1)
  | .inr k :: ts, S, d => evl N ts (fun j => if j = d - 2 then jn k (S (d - 2)) (S (d - 1)) else S j) (d - 1)
/-- only the cells that wait matter -/
theorem evl_cg {N : Nat → Int32} : ∀ (ts : List xTok) (S S' : Nat → Int32) (d e : Nat), tkW ts d e → (∀ j, j < d → S j = S' j) → ∀ j, j < e → evl N ts S d j = evl N ts S' d j
  | [], S, S', d, e, hw, h => by
    have : d = e := hw
    subst this
    exact h
  | .inl (.inl v) :: ts, S, S', d, e, hw, h => by
    refine evl_cg ts _ _ (d + 1) e hw.2 (fun j hj => ?_)
    by_cases w : j = d
    · rw [if_pos w, if_pos w]
    · rw [if_neg w, if_neg w]; exact h j (by omega)
  | .inl (.inr k) :: ts, S, S', d, e, hw, h => by
    refine evl_cg ts _ _ (d + 1) e hw.2 (fun j hj => ?_)
    by_cases w : j = d
    · rw [if_pos w, if_pos w]
    · rw [if_neg w, if_neg w]; exact h j (by omega)
  | .inr k :: ts, S, S', d, e, hw, h => by
    have h2 : 2 ≤ d := hw.1
    refine evl_cg ts _ _ (d - 1) e hw.2 (fun j hj => ?_)
    rw [h (d - 2) (by omega), h (d - 1) (by omega)]
    by_cases w : j = d - 2
    · rw [if_pos w, if_pos w]
    · rw [if_neg w, if_neg w]; exact h j (by omega)
/-- a line's worth -/
def lnv (N : Nat → Int32) (ts : List xTok) : Int32 := evl N ts (fun _ => 0) 0 0
/-- the stars by the lines -/
def stv (N : Nat → Int32) : List xLine → Int32
  | [] => 0
  | l :: ls => if lnv N l.2 = 0 then stv N ls else Int32.ofNat l.1
