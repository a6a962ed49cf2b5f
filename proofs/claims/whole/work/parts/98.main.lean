theorem st_main : st_claim := sorry
