theorem lawRuns : LawRuns := by
  intro L xs hL
  have e1 : (h0S L xs).2.2 (-1) = (L : Int) := by
    show (if (-1 : Int) = -1 then (L : Int) else (xs (Int.toNat (-1))).toInt) = L
    exact if_pos rfl
  have hw := ctor_run (s := (h0S L xs).2.2) (Q := fun o l n _ => o = Sum.inl (some (pI 1)) ∧ l = LY ∧ n ≤ 1) (fun h r hI => law_p1 hI (by rw [e1]; omega) (by rw [e1]; omega))
  obtain ⟨f, o, l1, n1, h1, hr, ho, hl, hn⟩ := hw
  subst ho
  subst hl
  obtain ⟨hc, hs⟩ := room_enough
  refine ⟨f, LY, n1, h1, hr, ?_, ?_⟩
  · have h2 : LY.length = 195 := by decide +kernel
    omega
  · have h2 : szs LY ≤ 100000 := by decide +kernel
    omega
