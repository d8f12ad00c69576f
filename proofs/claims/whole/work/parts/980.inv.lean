theorem inv_all : PAll Inv := ⟨p_room, p_lesson, p_block, p_place, p_drop, p_fill, p_tries, p_period, p_roomOf, p_penalty, p_improve, p_absent, p_substitute, p_undo, p_page⟩
