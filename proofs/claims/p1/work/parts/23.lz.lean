/-! FUNCTIONS: contents after writes -/
theorem fup_s {f : PF} {a k v : Int} : fup f a k v a k = v := by unfold fup; rw [if_pos ⟨rfl, rfl⟩]
theorem fup_a {f : PF} {a k v a' k' : Int} (h : a' ≠ a) : fup f a k v a' k' = f a' k' := by unfold fup; rw [if_neg (fun z => h z.1)]
theorem fup_k {f : PF} {a k v a' k' : Int} (h : k' ≠ k) : fup f a k v a' k' = f a' k' := by unfold fup; rw [if_neg (fun z => h z.2)]
theorem fup_same {f : PF} {a k v : Int} (h : f a k = v) : fup f a k v = f := by
  funext a' k'
  unfold fup
  split
  · rename_i z; rw [z.1, z.2, h]
  · rfl
theorem fup_fup {f : PF} {a k v w : Int} : fup (fup f a k v) a k w = fup f a k w := by
  funext a' k'
  unfold fup
  split <;> rfl
/-- row a from lo to hi (not hi) as g has it -/
def frng (f : PF) (a lo hi : Int) (g : Int → Int) : PF := fun a' k' => if a' = a ∧ lo ≤ k' ∧ k' < hi then g k' else f a' k'
theorem frng_nil {f : PF} {a lo hi : Int} {g : Int → Int} (h : hi ≤ lo) : frng f a lo hi g = f := by
  funext a' k'
  unfold frng
  rw [if_neg (by omega)]
theorem frng_up {f : PF} {a lo hi v : Int} {g : Int → Int} (h : lo < hi) (hv : g lo = v) : frng (fup f a lo v) a (lo + 1) hi g = frng f a lo hi g := by
  funext a' k'
  unfold frng fup
  by_cases h1 : a' = a ∧ lo ≤ k' ∧ k' < hi
  · rw [if_pos h1]
    by_cases h2 : k' = lo
    · rw [if_neg (by omega), if_pos ⟨h1.1, h2⟩, h2, hv]
    · rw [if_pos ⟨h1.1, by omega, h1.2.2⟩]
  · rw [if_neg h1, if_neg (by omega), if_neg (by omega)]
theorem frng_in {f : PF} {a lo hi : Int} {g : Int → Int} {k : Int} (h1 : lo ≤ k) (h2 : k < hi) : frng f a lo hi g a k = g k := by unfold frng; rw [if_pos ⟨rfl, h1, h2⟩]
theorem frng_a {f : PF} {a lo hi : Int} {g : Int → Int} {a' k : Int} (h : a' ≠ a) : frng f a lo hi g a' k = f a' k := by unfold frng; rw [if_neg (fun z => h z.1)]
theorem frng_out {f : PF} {a lo hi : Int} {g : Int → Int} {k : Int} (h : k < lo ∨ hi ≤ k) : frng f a lo hi g a k = f a k := by unfold frng; rw [if_neg (by omega)]
