/-! ===== the heap behind both constructors, over one function of the state ===== -/
abbrev Sg : Type := Nat → Nat → Int32
def HP (s : Sg) (o : Nat → Int64) : List va_E := [.inr (5, [.ref 8, .ref 1, .ref 4, .ref 6]), .inr (4, [.ref 2, .ref 3, .int (s 202 0), .int (s 203 0)]), .inl (0, 64, .inl (s 2)), .inl (0, 64, .inl (s 3)), .inr (1, [.ref 5, .int (s 501 0)]), .inl (0, 6, .inl (s 5)), .inr (2, [.ref 7, .int (s 701 0), .int (s 702 0)]), .inl (0, 1344, .inl (s 7)), .inr (0, [.int (s 900 0), .int (s 901 0), .int (s 902 0), .int (s 903 0), .int (s 904 0), .ref 9, .ref 17, .ref 18, .ref 19, .ref 20]), .inr (3, [.ref 10, .ref 11, .ref 12, .ref 13, .ref 14, .ref 15, .ref 16, .int (s 1007 0)]), .inl (0, 16, .inl (s 10)), .inl (0, 16, .inl (s 11)), .inl (0, 16, .inl (s 12)), .inl (0, 16, .inl (s 13)), .inl (0, 16, .inl (s 14)), .inl (0, 16, .inl (s 15)), .inl (0, 16, .inl (s 16)), .inl (0, 6, .inl (s 17)), .inl (0, 22, .inl (s 18)), .inl (0, 22, .inl (s 19)), .inl (0, 64, .inl (s 20)), .inr (6, [.int (s 2200 0), .int (s 2201 0), .int (s 2202 0), .ref 22, .int (s 2204 0), .ref 23, .ref 24, .ref 25, .ref 26, .ref 27, .ref 28, .ref 29, .ref 30, .ref 31, .ref 32, .int (s 2215 0), .ref 33, .ref 34, .ref 35, .ref 36, .ref 37, .int (s 2221 0), .ref 38, .int (s 2223 0)]), .inl (0, 6, .inl (s 22)), .inl (0, 16, .inl (s 23)), .inl (0, 16, .inl (s 24)), .inl (0, 16, .inl (s 25)), .inl (0, 16, .inl (s 26)), .inl (0, 16, .inl (s 27)), .inl (0, 16, .inl (s 28)), .inl (0, 16, .inl (s 29)), .inl (0, 64, .inl (s 30)), .inl (0, 64, .inl (s 31)), .inl (2, 660, .inl (s 32)), .inl (0, 64, .inl (s 33)), .inl (0, 64, .inl (s 34)), .inl (0, 64, .inl (s 35)), .inl (0, 1280, .inl (s 36)), .inl (0, 1280, .inl (s 37)), .inl (0, 64, .inl (s 38)), .inl (1, 1, .inr (.inl o))]
theorem HPlen (s : Sg) (o : Nat → Int64) : (HP s o).length = 40 := rfl
theorem HPg_0 (s : Sg) (o : Nat → Int64) : (HP s o)[0]? = some (.inr (5, [.ref 8, .ref 1, .ref 4, .ref 6])) := rfl
theorem HPg_1 (s : Sg) (o : Nat → Int64) : (HP s o)[1]? = some (.inr (4, [.ref 2, .ref 3, .int (s 202 0), .int (s 203 0)])) := rfl
theorem HPg_2 (s : Sg) (o : Nat → Int64) : (HP s o)[2]? = some (.inl (0, 64, .inl (s 2))) := rfl
theorem HPg_3 (s : Sg) (o : Nat → Int64) : (HP s o)[3]? = some (.inl (0, 64, .inl (s 3))) := rfl
theorem HPg_4 (s : Sg) (o : Nat → Int64) : (HP s o)[4]? = some (.inr (1, [.ref 5, .int (s 501 0)])) := rfl
theorem HPg_5 (s : Sg) (o : Nat → Int64) : (HP s o)[5]? = some (.inl (0, 6, .inl (s 5))) := rfl
theorem HPg_6 (s : Sg) (o : Nat → Int64) : (HP s o)[6]? = some (.inr (2, [.ref 7, .int (s 701 0), .int (s 702 0)])) := rfl
theorem HPg_7 (s : Sg) (o : Nat → Int64) : (HP s o)[7]? = some (.inl (0, 1344, .inl (s 7))) := rfl
theorem HPg_8 (s : Sg) (o : Nat → Int64) : (HP s o)[8]? = some (.inr (0, [.int (s 900 0), .int (s 901 0), .int (s 902 0), .int (s 903 0), .int (s 904 0), .ref 9, .ref 17, .ref 18, .ref 19, .ref 20])) := rfl
theorem HPg_9 (s : Sg) (o : Nat → Int64) : (HP s o)[9]? = some (.inr (3, [.ref 10, .ref 11, .ref 12, .ref 13, .ref 14, .ref 15, .ref 16, .int (s 1007 0)])) := rfl
theorem HPg_10 (s : Sg) (o : Nat → Int64) : (HP s o)[10]? = some (.inl (0, 16, .inl (s 10))) := rfl
theorem HPg_11 (s : Sg) (o : Nat → Int64) : (HP s o)[11]? = some (.inl (0, 16, .inl (s 11))) := rfl
theorem HPg_12 (s : Sg) (o : Nat → Int64) : (HP s o)[12]? = some (.inl (0, 16, .inl (s 12))) := rfl
theorem HPg_13 (s : Sg) (o : Nat → Int64) : (HP s o)[13]? = some (.inl (0, 16, .inl (s 13))) := rfl
theorem HPg_14 (s : Sg) (o : Nat → Int64) : (HP s o)[14]? = some (.inl (0, 16, .inl (s 14))) := rfl
theorem HPg_15 (s : Sg) (o : Nat → Int64) : (HP s o)[15]? = some (.inl (0, 16, .inl (s 15))) := rfl
theorem HPg_16 (s : Sg) (o : Nat → Int64) : (HP s o)[16]? = some (.inl (0, 16, .inl (s 16))) := rfl
theorem HPg_17 (s : Sg) (o : Nat → Int64) : (HP s o)[17]? = some (.inl (0, 6, .inl (s 17))) := rfl
theorem HPg_18 (s : Sg) (o : Nat → Int64) : (HP s o)[18]? = some (.inl (0, 22, .inl (s 18))) := rfl
theorem HPg_19 (s : Sg) (o : Nat → Int64) : (HP s o)[19]? = some (.inl (0, 22, .inl (s 19))) := rfl
theorem HPg_20 (s : Sg) (o : Nat → Int64) : (HP s o)[20]? = some (.inl (0, 64, .inl (s 20))) := rfl
theorem HPg_21 (s : Sg) (o : Nat → Int64) : (HP s o)[21]? = some (.inr (6, [.int (s 2200 0), .int (s 2201 0), .int (s 2202 0), .ref 22, .int (s 2204 0), .ref 23, .ref 24, .ref 25, .ref 26, .ref 27, .ref 28, .ref 29, .ref 30, .ref 31, .ref 32, .int (s 2215 0), .ref 33, .ref 34, .ref 35, .ref 36, .ref 37, .int (s 2221 0), .ref 38, .int (s 2223 0)])) := rfl
theorem HPg_22 (s : Sg) (o : Nat → Int64) : (HP s o)[22]? = some (.inl (0, 6, .inl (s 22))) := rfl
theorem HPg_23 (s : Sg) (o : Nat → Int64) : (HP s o)[23]? = some (.inl (0, 16, .inl (s 23))) := rfl
theorem HPg_24 (s : Sg) (o : Nat → Int64) : (HP s o)[24]? = some (.inl (0, 16, .inl (s 24))) := rfl
theorem HPg_25 (s : Sg) (o : Nat → Int64) : (HP s o)[25]? = some (.inl (0, 16, .inl (s 25))) := rfl
theorem HPg_26 (s : Sg) (o : Nat → Int64) : (HP s o)[26]? = some (.inl (0, 16, .inl (s 26))) := rfl
theorem HPg_27 (s : Sg) (o : Nat → Int64) : (HP s o)[27]? = some (.inl (0, 16, .inl (s 27))) := rfl
theorem HPg_28 (s : Sg) (o : Nat → Int64) : (HP s o)[28]? = some (.inl (0, 16, .inl (s 28))) := rfl
theorem HPg_29 (s : Sg) (o : Nat → Int64) : (HP s o)[29]? = some (.inl (0, 16, .inl (s 29))) := rfl
theorem HPg_30 (s : Sg) (o : Nat → Int64) : (HP s o)[30]? = some (.inl (0, 64, .inl (s 30))) := rfl
theorem HPg_31 (s : Sg) (o : Nat → Int64) : (HP s o)[31]? = some (.inl (0, 64, .inl (s 31))) := rfl
theorem HPg_32 (s : Sg) (o : Nat → Int64) : (HP s o)[32]? = some (.inl (2, 660, .inl (s 32))) := rfl
theorem HPg_33 (s : Sg) (o : Nat → Int64) : (HP s o)[33]? = some (.inl (0, 64, .inl (s 33))) := rfl
theorem HPg_34 (s : Sg) (o : Nat → Int64) : (HP s o)[34]? = some (.inl (0, 64, .inl (s 34))) := rfl
theorem HPg_35 (s : Sg) (o : Nat → Int64) : (HP s o)[35]? = some (.inl (0, 64, .inl (s 35))) := rfl
theorem HPg_36 (s : Sg) (o : Nat → Int64) : (HP s o)[36]? = some (.inl (0, 1280, .inl (s 36))) := rfl
theorem HPg_37 (s : Sg) (o : Nat → Int64) : (HP s o)[37]? = some (.inl (0, 1280, .inl (s 37))) := rfl
theorem HPg_38 (s : Sg) (o : Nat → Int64) : (HP s o)[38]? = some (.inl (0, 64, .inl (s 38))) := rfl
theorem HPg_39 (s : Sg) (o : Nat → Int64) : (HP s o)[39]? = some (.inl (1, 1, .inr (.inl o))) := rfl
theorem HPp_1_2 (s : Sg) (o : Nat → Int64) (x : Int32) : (HP s o).set 1 (.inr (4, ([.ref 2, .ref 3, .int (s 202 0), .int (s 203 0)] : List Value).set 2 (.int x))) = HP (va_up s 202 (fun _ => x)) o := rfl
theorem HPp_1_3 (s : Sg) (o : Nat → Int64) (x : Int32) : (HP s o).set 1 (.inr (4, ([.ref 2, .ref 3, .int (s 202 0), .int (s 203 0)] : List Value).set 3 (.int x))) = HP (va_up s 203 (fun _ => x)) o := rfl
theorem HPs_2 (s : Sg) (o : Nat → Int64) (f : Nat → Int32) : (HP s o).set 2 (.inl (0, 64, .inl f)) = HP (va_up s 2 f) o := rfl
theorem HPs_3 (s : Sg) (o : Nat → Int64) (f : Nat → Int32) : (HP s o).set 3 (.inl (0, 64, .inl f)) = HP (va_up s 3 f) o := rfl
theorem HPp_4_1 (s : Sg) (o : Nat → Int64) (x : Int32) : (HP s o).set 4 (.inr (1, ([.ref 5, .int (s 501 0)] : List Value).set 1 (.int x))) = HP (va_up s 501 (fun _ => x)) o := rfl
theorem HPs_5 (s : Sg) (o : Nat → Int64) (f : Nat → Int32) : (HP s o).set 5 (.inl (0, 6, .inl f)) = HP (va_up s 5 f) o := rfl
theorem HPp_6_1 (s : Sg) (o : Nat → Int64) (x : Int32) : (HP s o).set 6 (.inr (2, ([.ref 7, .int (s 701 0), .int (s 702 0)] : List Value).set 1 (.int x))) = HP (va_up s 701 (fun _ => x)) o := rfl
theorem HPp_6_2 (s : Sg) (o : Nat → Int64) (x : Int32) : (HP s o).set 6 (.inr (2, ([.ref 7, .int (s 701 0), .int (s 702 0)] : List Value).set 2 (.int x))) = HP (va_up s 702 (fun _ => x)) o := rfl
theorem HPs_7 (s : Sg) (o : Nat → Int64) (f : Nat → Int32) : (HP s o).set 7 (.inl (0, 1344, .inl f)) = HP (va_up s 7 f) o := rfl
theorem HPp_8_0 (s : Sg) (o : Nat → Int64) (x : Int32) : (HP s o).set 8 (.inr (0, ([.int (s 900 0), .int (s 901 0), .int (s 902 0), .int (s 903 0), .int (s 904 0), .ref 9, .ref 17, .ref 18, .ref 19, .ref 20] : List Value).set 0 (.int x))) = HP (va_up s 900 (fun _ => x)) o := rfl
theorem HPp_8_1 (s : Sg) (o : Nat → Int64) (x : Int32) : (HP s o).set 8 (.inr (0, ([.int (s 900 0), .int (s 901 0), .int (s 902 0), .int (s 903 0), .int (s 904 0), .ref 9, .ref 17, .ref 18, .ref 19, .ref 20] : List Value).set 1 (.int x))) = HP (va_up s 901 (fun _ => x)) o := rfl
theorem HPp_8_2 (s : Sg) (o : Nat → Int64) (x : Int32) : (HP s o).set 8 (.inr (0, ([.int (s 900 0), .int (s 901 0), .int (s 902 0), .int (s 903 0), .int (s 904 0), .ref 9, .ref 17, .ref 18, .ref 19, .ref 20] : List Value).set 2 (.int x))) = HP (va_up s 902 (fun _ => x)) o := rfl
theorem HPp_8_3 (s : Sg) (o : Nat → Int64) (x : Int32) : (HP s o).set 8 (.inr (0, ([.int (s 900 0), .int (s 901 0), .int (s 902 0), .int (s 903 0), .int (s 904 0), .ref 9, .ref 17, .ref 18, .ref 19, .ref 20] : List Value).set 3 (.int x))) = HP (va_up s 903 (fun _ => x)) o := rfl
theorem HPp_8_4 (s : Sg) (o : Nat → Int64) (x : Int32) : (HP s o).set 8 (.inr (0, ([.int (s 900 0), .int (s 901 0), .int (s 902 0), .int (s 903 0), .int (s 904 0), .ref 9, .ref 17, .ref 18, .ref 19, .ref 20] : List Value).set 4 (.int x))) = HP (va_up s 904 (fun _ => x)) o := rfl
theorem HPp_9_7 (s : Sg) (o : Nat → Int64) (x : Int32) : (HP s o).set 9 (.inr (3, ([.ref 10, .ref 11, .ref 12, .ref 13, .ref 14, .ref 15, .ref 16, .int (s 1007 0)] : List Value).set 7 (.int x))) = HP (va_up s 1007 (fun _ => x)) o := rfl
theorem HPs_10 (s : Sg) (o : Nat → Int64) (f : Nat → Int32) : (HP s o).set 10 (.inl (0, 16, .inl f)) = HP (va_up s 10 f) o := rfl
theorem HPs_11 (s : Sg) (o : Nat → Int64) (f : Nat → Int32) : (HP s o).set 11 (.inl (0, 16, .inl f)) = HP (va_up s 11 f) o := rfl
theorem HPs_12 (s : Sg) (o : Nat → Int64) (f : Nat → Int32) : (HP s o).set 12 (.inl (0, 16, .inl f)) = HP (va_up s 12 f) o := rfl
theorem HPs_13 (s : Sg) (o : Nat → Int64) (f : Nat → Int32) : (HP s o).set 13 (.inl (0, 16, .inl f)) = HP (va_up s 13 f) o := rfl
theorem HPs_14 (s : Sg) (o : Nat → Int64) (f : Nat → Int32) : (HP s o).set 14 (.inl (0, 16, .inl f)) = HP (va_up s 14 f) o := rfl
theorem HPs_15 (s : Sg) (o : Nat → Int64) (f : Nat → Int32) : (HP s o).set 15 (.inl (0, 16, .inl f)) = HP (va_up s 15 f) o := rfl
theorem HPs_16 (s : Sg) (o : Nat → Int64) (f : Nat → Int32) : (HP s o).set 16 (.inl (0, 16, .inl f)) = HP (va_up s 16 f) o := rfl
theorem HPs_17 (s : Sg) (o : Nat → Int64) (f : Nat → Int32) : (HP s o).set 17 (.inl (0, 6, .inl f)) = HP (va_up s 17 f) o := rfl
theorem HPs_18 (s : Sg) (o : Nat → Int64) (f : Nat → Int32) : (HP s o).set 18 (.inl (0, 22, .inl f)) = HP (va_up s 18 f) o := rfl
theorem HPs_19 (s : Sg) (o : Nat → Int64) (f : Nat → Int32) : (HP s o).set 19 (.inl (0, 22, .inl f)) = HP (va_up s 19 f) o := rfl
theorem HPs_20 (s : Sg) (o : Nat → Int64) (f : Nat → Int32) : (HP s o).set 20 (.inl (0, 64, .inl f)) = HP (va_up s 20 f) o := rfl
theorem HPp_21_0 (s : Sg) (o : Nat → Int64) (x : Int32) : (HP s o).set 21 (.inr (6, ([.int (s 2200 0), .int (s 2201 0), .int (s 2202 0), .ref 22, .int (s 2204 0), .ref 23, .ref 24, .ref 25, .ref 26, .ref 27, .ref 28, .ref 29, .ref 30, .ref 31, .ref 32, .int (s 2215 0), .ref 33, .ref 34, .ref 35, .ref 36, .ref 37, .int (s 2221 0), .ref 38, .int (s 2223 0)] : List Value).set 0 (.int x))) = HP (va_up s 2200 (fun _ => x)) o := rfl
theorem HPp_21_1 (s : Sg) (o : Nat → Int64) (x : Int32) : (HP s o).set 21 (.inr (6, ([.int (s 2200 0), .int (s 2201 0), .int (s 2202 0), .ref 22, .int (s 2204 0), .ref 23, .ref 24, .ref 25, .ref 26, .ref 27, .ref 28, .ref 29, .ref 30, .ref 31, .ref 32, .int (s 2215 0), .ref 33, .ref 34, .ref 35, .ref 36, .ref 37, .int (s 2221 0), .ref 38, .int (s 2223 0)] : List Value).set 1 (.int x))) = HP (va_up s 2201 (fun _ => x)) o := rfl
theorem HPp_21_2 (s : Sg) (o : Nat → Int64) (x : Int32) : (HP s o).set 21 (.inr (6, ([.int (s 2200 0), .int (s 2201 0), .int (s 2202 0), .ref 22, .int (s 2204 0), .ref 23, .ref 24, .ref 25, .ref 26, .ref 27, .ref 28, .ref 29, .ref 30, .ref 31, .ref 32, .int (s 2215 0), .ref 33, .ref 34, .ref 35, .ref 36, .ref 37, .int (s 2221 0), .ref 38, .int (s 2223 0)] : List Value).set 2 (.int x))) = HP (va_up s 2202 (fun _ => x)) o := rfl
theorem HPp_21_4 (s : Sg) (o : Nat → Int64) (x : Int32) : (HP s o).set 21 (.inr (6, ([.int (s 2200 0), .int (s 2201 0), .int (s 2202 0), .ref 22, .int (s 2204 0), .ref 23, .ref 24, .ref 25, .ref 26, .ref 27, .ref 28, .ref 29, .ref 30, .ref 31, .ref 32, .int (s 2215 0), .ref 33, .ref 34, .ref 35, .ref 36, .ref 37, .int (s 2221 0), .ref 38, .int (s 2223 0)] : List Value).set 4 (.int x))) = HP (va_up s 2204 (fun _ => x)) o := rfl
theorem HPp_21_15 (s : Sg) (o : Nat → Int64) (x : Int32) : (HP s o).set 21 (.inr (6, ([.int (s 2200 0), .int (s 2201 0), .int (s 2202 0), .ref 22, .int (s 2204 0), .ref 23, .ref 24, .ref 25, .ref 26, .ref 27, .ref 28, .ref 29, .ref 30, .ref 31, .ref 32, .int (s 2215 0), .ref 33, .ref 34, .ref 35, .ref 36, .ref 37, .int (s 2221 0), .ref 38, .int (s 2223 0)] : List Value).set 15 (.int x))) = HP (va_up s 2215 (fun _ => x)) o := rfl
theorem HPp_21_21 (s : Sg) (o : Nat → Int64) (x : Int32) : (HP s o).set 21 (.inr (6, ([.int (s 2200 0), .int (s 2201 0), .int (s 2202 0), .ref 22, .int (s 2204 0), .ref 23, .ref 24, .ref 25, .ref 26, .ref 27, .ref 28, .ref 29, .ref 30, .ref 31, .ref 32, .int (s 2215 0), .ref 33, .ref 34, .ref 35, .ref 36, .ref 37, .int (s 2221 0), .ref 38, .int (s 2223 0)] : List Value).set 21 (.int x))) = HP (va_up s 2221 (fun _ => x)) o := rfl
theorem HPp_21_23 (s : Sg) (o : Nat → Int64) (x : Int32) : (HP s o).set 21 (.inr (6, ([.int (s 2200 0), .int (s 2201 0), .int (s 2202 0), .ref 22, .int (s 2204 0), .ref 23, .ref 24, .ref 25, .ref 26, .ref 27, .ref 28, .ref 29, .ref 30, .ref 31, .ref 32, .int (s 2215 0), .ref 33, .ref 34, .ref 35, .ref 36, .ref 37, .int (s 2221 0), .ref 38, .int (s 2223 0)] : List Value).set 23 (.int x))) = HP (va_up s 2223 (fun _ => x)) o := rfl
theorem HPs_22 (s : Sg) (o : Nat → Int64) (f : Nat → Int32) : (HP s o).set 22 (.inl (0, 6, .inl f)) = HP (va_up s 22 f) o := rfl
theorem HPs_23 (s : Sg) (o : Nat → Int64) (f : Nat → Int32) : (HP s o).set 23 (.inl (0, 16, .inl f)) = HP (va_up s 23 f) o := rfl
theorem HPs_24 (s : Sg) (o : Nat → Int64) (f : Nat → Int32) : (HP s o).set 24 (.inl (0, 16, .inl f)) = HP (va_up s 24 f) o := rfl
theorem HPs_25 (s : Sg) (o : Nat → Int64) (f : Nat → Int32) : (HP s o).set 25 (.inl (0, 16, .inl f)) = HP (va_up s 25 f) o := rfl
theorem HPs_26 (s : Sg) (o : Nat → Int64) (f : Nat → Int32) : (HP s o).set 26 (.inl (0, 16, .inl f)) = HP (va_up s 26 f) o := rfl
theorem HPs_27 (s : Sg) (o : Nat → Int64) (f : Nat → Int32) : (HP s o).set 27 (.inl (0, 16, .inl f)) = HP (va_up s 27 f) o := rfl
theorem HPs_28 (s : Sg) (o : Nat → Int64) (f : Nat → Int32) : (HP s o).set 28 (.inl (0, 16, .inl f)) = HP (va_up s 28 f) o := rfl
theorem HPs_29 (s : Sg) (o : Nat → Int64) (f : Nat → Int32) : (HP s o).set 29 (.inl (0, 16, .inl f)) = HP (va_up s 29 f) o := rfl
theorem HPs_30 (s : Sg) (o : Nat → Int64) (f : Nat → Int32) : (HP s o).set 30 (.inl (0, 64, .inl f)) = HP (va_up s 30 f) o := rfl
theorem HPs_31 (s : Sg) (o : Nat → Int64) (f : Nat → Int32) : (HP s o).set 31 (.inl (0, 64, .inl f)) = HP (va_up s 31 f) o := rfl
theorem HPs_32 (s : Sg) (o : Nat → Int64) (f : Nat → Int32) : (HP s o).set 32 (.inl (2, 660, .inl f)) = HP (va_up s 32 f) o := rfl
theorem HPs_33 (s : Sg) (o : Nat → Int64) (f : Nat → Int32) : (HP s o).set 33 (.inl (0, 64, .inl f)) = HP (va_up s 33 f) o := rfl
theorem HPs_34 (s : Sg) (o : Nat → Int64) (f : Nat → Int32) : (HP s o).set 34 (.inl (0, 64, .inl f)) = HP (va_up s 34 f) o := rfl
theorem HPs_35 (s : Sg) (o : Nat → Int64) (f : Nat → Int32) : (HP s o).set 35 (.inl (0, 64, .inl f)) = HP (va_up s 35 f) o := rfl
theorem HPs_36 (s : Sg) (o : Nat → Int64) (f : Nat → Int32) : (HP s o).set 36 (.inl (0, 1280, .inl f)) = HP (va_up s 36 f) o := rfl
theorem HPs_37 (s : Sg) (o : Nat → Int64) (f : Nat → Int32) : (HP s o).set 37 (.inl (0, 1280, .inl f)) = HP (va_up s 37 f) o := rfl
theorem HPs_38 (s : Sg) (o : Nat → Int64) (f : Nat → Int32) : (HP s o).set 38 (.inl (0, 64, .inl f)) = HP (va_up s 38 f) o := rfl
theorem HPs_39 (s : Sg) (o f : Nat → Int64) : (HP s o).set 39 (.inl (1, 1, .inr (.inl f))) = HP s f := rfl
theorem HPlv (s : Sg) (o : Nat → Int64) {lv : List (Option Value)} (h : lv.all (roO 40) = true) : lv.all (roO (HP s o).length) = true := h
theorem HPst (s : Sg) (o : Nat → Int64) {st : List Value} (h : st.all (rok 40) = true) : st.all (rok (HP s o).length) = true := h
def ixb (i : Int32) (n : Nat) : Bool := decide (0 ≤ i) && decide (i.toNatClampNeg < n)
theorem ixb_in {i : Int32} {n : Nat} (h : ixb i n = true) : vp_in i n := by
  simp only [ixb, Bool.and_eq_true, decide_eq_true_eq] at h
  rintro (h1 | h1)
  · exact absurd h1 (Int32.not_lt.mpr h.1)
  · exact absurd h.2 (Nat.not_lt.mpr h1)
def grd {α : Type} (c : Prop) [Decidable c] (x : Option α) : Option α := if c then x else none
def bnd {α β : Type} (x : α) (f : α → Option β) : Option β := f x
def jn {α β : Type} (J : α) (f : α → Option β) : Option β := f J
theorem grd_some {α : Type} {c : Prop} [Decidable c] {x : Option α} {r : α} (h : grd c x = some r) : c ∧ x = some r := by
  unfold grd at h
  split at h
  · exact ⟨by assumption, h⟩
  · cases h
theorem bnd_some {α β : Type} {x : α} {f : α → Option β} {r : β} (h : bnd x f = some r) : ∃ y, y = x ∧ f y = some r := ⟨x, rfl, h⟩
theorem jn_some {α β : Type} {J : α} {f : α → Option β} {r : β} (h : jn J f = some r) : ∃ y, y = J ∧ f y = some r := ⟨J, rfl, h⟩
def FU : Nat := 1000000
theorem tb_out {x : Int32} (n : Nat) (hi : Int) (hn : (n : Int) = hi + 1) (hs : n < 2 ^ 31) (h : ∀ j, j < n → ¬ x = nI j) : x.toInt < 0 ∨ hi < x.toInt := by
  rcases Int.lt_or_le x.toInt 0 with h1 | h1
  · exact Or.inl h1
  · rcases Int.lt_or_le hi x.toInt with h2 | h2
    · exact Or.inr h2
    · exfalso
      have h3 : x.toInt.toNat < n := by omega
      refine h x.toInt.toNat h3 (Int32.toInt_inj.mp ?_)
      rw [nI_toInt (by omega)]
      omega
