theorem chk : Chk := sorry
theorem chkM : ChkM := sorry
