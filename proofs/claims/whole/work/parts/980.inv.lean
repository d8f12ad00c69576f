theorem inv_all : PAll Inv := sorry
theorem inv_start : Start Inv := sorry
