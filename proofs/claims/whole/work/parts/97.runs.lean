theorem lawRuns : LawRuns := sorry
