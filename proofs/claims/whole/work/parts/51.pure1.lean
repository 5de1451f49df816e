/-! PURE: the programs' loops -/
theorem ixb_nI {i n : Nat} (h : i < n) (hn : n < 2 ^ 31) : ixb (nI i) n = true := ixb_of (vp_in_nI h hn)
theorem upM_same {M : Mm} {r : Nat} {m : Nat → Int32} (h : m = M r) : upM M r m = M := by
  funext q
  by_cases hq : q = r
  · subst hq
    rw [upM_at, h]
  · rw [upM_ne hq]
theorem fill_loop {B C r n : Nat} {v : Int32} (hn : n < 2 ^ 31) : ∀ (k fuel i : Nat) (M : Mm), i + k = n → k < fuel → B_A_fill_5 B C r n fuel v (nI i) (nI n) M = some (upM M r (fun j => if i ≤ j ∧ j < n then v else M r j)) := by
  intro k
  induction k with
  | zero =>
    intro fuel i M hi hf
    obtain ⟨f, rfl⟩ : ∃ f, fuel = f + 1 := ⟨fuel - 1, by omega⟩
    rw [B_A_fill_5, if_pos (nI_le (show n ≤ i by omega) (by omega)), upM_same]
    funext j
    rw [if_neg (by omega)]
  | succ k ih =>
    intro fuel i M hi hf
    obtain ⟨f, rfl⟩ : ∃ f, fuel = f + 1 := ⟨fuel - 1, by omega⟩
    rw [B_A_fill_5, if_neg (nI_ge (by omega) hn), if_pos (ixb_nI (by omega) hn)]
    simp only [bnd]
    rw [nI_clamp (by omega), nI_1, ih f (i + 1) _ (by omega) (by omega)]
    congr 1
    funext q
    by_cases hq : q = r
    · subst hq
      rw [upM_at, upM_at, up2_at]
      funext j
      by_cases hj : j = i
      · subst hj
        rw [if_neg (by omega), if_pos (by omega), pk_us]
      · rw [pk_un hj]
        by_cases h1 : i ≤ j ∧ j < n
        · rw [if_pos h1, if_pos (by omega)]
        · rw [if_neg h1, if_neg (by omega)]
    · rw [upM_ne hq, upM_ne hq, up2_ne hq]
theorem fill_eq {B C r n : Nat} {v : Int32} {M : Mm} (hn : n < 1000) : f_A_fill B C r n v M = some (upM M r (fun j => if j < n then v else M r j)) := by
  unfold f_A_fill
  simp only [bnd]
  rw [← nI_0, fill_loop (by omega) n 1200 0 M (by omega) (by omega)]
  simp
/-- a checker, or a channel's rules, as new -/
def rsF (r B : Nat) (M : Mm) : Mm := fun q =>
  if q = r then (fun k => if k = 7 ∨ k = 8 ∨ k = 9 ∨ k = 10 then -1 else M r k)
  else if r < q ∧ q ≤ r + 5 then (fun j => if j < B then -1 else M q j)
  else if q = r + 6 then (fun j => if j < 4 then -1 else M q j) else M q
theorem forget_eq {B C r : Nat} {M : Mm} (hB : B ≤ 8) : f_R_forget B C r M = some (rsF r B M) := by
  unfold f_R_forget
  simp only [fill_eq (show B < 1000 by omega), fill_eq (show 4 < 1000 by omega), Option.bind_some, bnd]
  congr 1
  funext q
  unfold rsF
  by_cases h0 : q = r
  · subst h0
    rw [if_pos rfl, up2_at]
    funext k
    simp only [up2_at, upd]
    simp only [upM_ne (show q ≠ q + 1 by omega), upM_ne (show q ≠ q + 2 by omega), upM_ne (show q ≠ q + 3 by omega), upM_ne (show q ≠ q + 4 by omega), upM_ne (show q ≠ q + 5 by omega), upM_ne (show q ≠ q + 6 by omega)]
    by_cases h10 : k = 10
    · simp [h10]
    · by_cases h9 : k = 9
      · simp [h9]
      · by_cases h8 : k = 8
        · simp [h8]
        · by_cases h7 : k = 7
          · simp [h7]
          · simp [h10, h9, h8, h7]
  · rw [if_neg h0, up2_ne h0, up2_ne h0, up2_ne h0, up2_ne h0]
    by_cases h6 : q = r + 6
    · subst h6
      rw [upM_at, if_neg (by omega), if_pos rfl]
      simp only [upM_ne (show r + 6 ≠ r + 1 by omega), upM_ne (show r + 6 ≠ r + 2 by omega), upM_ne (show r + 6 ≠ r + 3 by omega), upM_ne (show r + 6 ≠ r + 4 by omega), upM_ne (show r + 6 ≠ r + 5 by omega)]
    · rw [upM_ne h6]
      by_cases h5 : r < q ∧ q ≤ r + 5
      · rw [if_pos h5]
        obtain h | h | h | h | h : q = r + 1 ∨ q = r + 2 ∨ q = r + 3 ∨ q = r + 4 ∨ q = r + 5 := by omega
        all_goals subst h
        all_goals simp [upM]
      · rw [if_neg h5, if_neg h6, upM_ne (by omega), upM_ne (by omega), upM_ne (by omega), upM_ne (by omega), upM_ne (by omega)]
