def Inv (s : Sg) : Prop := s 0 0 = 0
theorem inv_all : PAll Inv := sorry
theorem inv_start : Start Inv := sorry
