theorem pure_main : PURE := sorry
