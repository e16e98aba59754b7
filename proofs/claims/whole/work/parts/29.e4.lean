/-! facts of methods; rows of calls; the layout of the cells that the constructors make (by program) -/
theorem mf_0 : mOwn 0 = 11 ∧ mLvl 0 = 3 ∧ mMaxL 0 = 1 ∧ mArgs 0 = 0 ∧ isMM 0 = false ∧ isStr 0 = false := by decide +kernel
theorem rv_0 : mRet 0 = none := rfl
theorem mf_1 : mOwn 1 = 11 ∧ mLvl 1 = 1 ∧ mMaxL 1 = 2 ∧ mArgs 1 = 1 ∧ isMM 1 = false ∧ isStr 1 = false := by decide +kernel
theorem ri_1 {x : Int} : retI 1 x = true := rfl
theorem mf_2 : mOwn 2 = 11 ∧ mLvl 2 = 1 ∧ mMaxL 2 = 4 ∧ mArgs 2 = 2 ∧ isMM 2 = false ∧ isStr 2 = false := by decide +kernel
theorem ri_2 {x : Int} : retI 2 x = true := rfl
theorem mf_3 : mOwn 3 = 11 ∧ mLvl 3 = 10 ∧ mMaxL 3 = 9 ∧ mArgs 3 = 5 ∧ isMM 3 = false ∧ isStr 3 = false := by decide +kernel
theorem ri_3 {x : Int} : retI 3 x = true := rfl
theorem mf_4 : mOwn 4 = 11 ∧ mLvl 4 = 1 ∧ mMaxL 4 = 3 ∧ mArgs 4 = 2 ∧ isMM 4 = false ∧ isStr 4 = false := by decide +kernel
theorem ri_4 {x : Int} : retI 4 x = true := rfl
theorem mf_5 : mOwn 5 = 11 ∧ mLvl 5 = 1 ∧ mMaxL 5 = 3 ∧ mArgs 5 = 1 ∧ isMM 5 = false ∧ isStr 5 = false := by decide +kernel
theorem ri_5 {x : Int} : retI 5 x = true := rfl
theorem mf_6 : mOwn 6 = 11 ∧ mLvl 6 = 1 ∧ mMaxL 6 = 4 ∧ mArgs 6 = 2 ∧ isMM 6 = false ∧ isStr 6 = false := by decide +kernel
theorem ri_6 {x : Int} : retI 6 x = true := rfl
theorem mf_7 : mOwn 7 = 11 ∧ mLvl 7 = 2 ∧ mMaxL 7 = 3 ∧ mArgs 7 = 2 ∧ isMM 7 = false ∧ isStr 7 = false := by decide +kernel
theorem ri_7 {x : Int} : retI 7 x = true := rfl
theorem mf_8 : mOwn 8 = 11 ∧ mLvl 8 = 4 ∧ mMaxL 8 = 5 ∧ mArgs 8 = 4 ∧ isMM 8 = false ∧ isStr 8 = false := by decide +kernel
theorem ri_8 {x : Int} : retI 8 x = true := rfl
theorem mf_9 : mOwn 9 = 11 ∧ mLvl 9 = 5 ∧ mMaxL 9 = 6 ∧ mArgs 9 = 5 ∧ isMM 9 = false ∧ isStr 9 = false := by decide +kernel
theorem ri_9 {x : Int} : retI 9 x = true := rfl
theorem mf_10 : mOwn 10 = 11 ∧ mLvl 10 = 1 ∧ mMaxL 10 = 3 ∧ mArgs 10 = 2 ∧ isMM 10 = false ∧ isStr 10 = false := by decide +kernel
theorem ri_10 {x : Int} : retI 10 x = true := rfl
theorem mf_11 : mOwn 11 = 11 ∧ mLvl 11 = 1 ∧ mMaxL 11 = 3 ∧ mArgs 11 = 2 ∧ isMM 11 = false ∧ isStr 11 = false := by decide +kernel
theorem ri_11 {x : Int} : retI 11 x = true := rfl
theorem mf_12 : mOwn 12 = 11 ∧ mLvl 12 = 5 ∧ mMaxL 12 = 6 ∧ mArgs 12 = 5 ∧ isMM 12 = false ∧ isStr 12 = false := by decide +kernel
theorem ri_12 {x : Int} : retI 12 x = true := rfl
theorem mf_13 : mOwn 13 = 11 ∧ mLvl 13 = 2 ∧ mMaxL 13 = 3 ∧ mArgs 13 = 2 ∧ isMM 13 = false ∧ isStr 13 = false := by decide +kernel
theorem ri_13 {x : Int} : retI 13 x = true := rfl
theorem mf_14 : mOwn 14 = 11 ∧ mLvl 14 = 5 ∧ mMaxL 14 = 5 ∧ mArgs 14 = 3 ∧ isMM 14 = false ∧ isStr 14 = false := by decide +kernel
theorem ri_14 {x : Int} : retI 14 x = true := rfl
theorem mf_15 : mOwn 15 = 11 ∧ mLvl 15 = 6 ∧ mMaxL 15 = 7 ∧ mArgs 15 = 2 ∧ isMM 15 = false ∧ isStr 15 = false := by decide +kernel
theorem ri_15 {x : Int} : retI 15 x = true := rfl
theorem mf_16 : mOwn 16 = 11 ∧ mLvl 16 = 1 ∧ mMaxL 16 = 3 ∧ mArgs 16 = 1 ∧ isMM 16 = false ∧ isStr 16 = false := by decide +kernel
theorem ri_16 {x : Int} : retI 16 x = true := rfl
theorem mf_17 : mOwn 17 = 11 ∧ mLvl 17 = 5 ∧ mMaxL 17 = 7 ∧ mArgs 17 = 4 ∧ isMM 17 = false ∧ isStr 17 = false := by decide +kernel
theorem ri_17 {x : Int} : retI 17 x = true := rfl
theorem mf_18 : mOwn 18 = 11 ∧ mLvl 18 = 5 ∧ mMaxL 18 = 4 ∧ mArgs 18 = 3 ∧ isMM 18 = false ∧ isStr 18 = false := by decide +kernel
theorem ri_18 {x : Int} : retI 18 x = true := rfl
theorem mf_19 : mOwn 19 = 11 ∧ mLvl 19 = 5 ∧ mMaxL 19 = 4 ∧ mArgs 19 = 3 ∧ isMM 19 = false ∧ isStr 19 = false := by decide +kernel
theorem ri_19 {x : Int} : retI 19 x = true := rfl
theorem mf_20 : mOwn 20 = 11 ∧ mLvl 20 = 2 ∧ mMaxL 20 = 4 ∧ mArgs 20 = 3 ∧ isMM 20 = false ∧ isStr 20 = false := by decide +kernel
theorem ri_20 {x : Int} : retI 20 x = true := rfl
theorem mf_21 : mOwn 21 = 11 ∧ mLvl 21 = 3 ∧ mMaxL 21 = 6 ∧ mArgs 21 = 4 ∧ isMM 21 = false ∧ isStr 21 = false := by decide +kernel
theorem ri_21 {x : Int} : retI 21 x = true := rfl
theorem mf_22 : mOwn 22 = 11 ∧ mLvl 22 = 3 ∧ mMaxL 22 = 2 ∧ mArgs 22 = 1 ∧ isMM 22 = false ∧ isStr 22 = false := by decide +kernel
theorem ri_22 {x : Int} : retI 22 x = true := rfl
theorem mf_23 : mOwn 23 = 11 ∧ mLvl 23 = 3 ∧ mMaxL 23 = 3 ∧ mArgs 23 = 2 ∧ isMM 23 = false ∧ isStr 23 = false := by decide +kernel
theorem ri_23 {x : Int} : retI 23 x = true := rfl
theorem mf_24 : mOwn 24 = 11 ∧ mLvl 24 = 4 ∧ mMaxL 24 = 4 ∧ mArgs 24 = 2 ∧ isMM 24 = false ∧ isStr 24 = false := by decide +kernel
theorem ri_24 {x : Int} : retI 24 x = true := rfl
theorem mf_25 : mOwn 25 = 11 ∧ mLvl 25 = 2 ∧ mMaxL 25 = 4 ∧ mArgs 25 = 2 ∧ isMM 25 = false ∧ isStr 25 = false := by decide +kernel
theorem ri_25 {x : Int} : retI 25 x = true := rfl
theorem mf_26 : mOwn 26 = 11 ∧ mLvl 26 = 10 ∧ mMaxL 26 = 5 ∧ mArgs 26 = 2 ∧ isMM 26 = false ∧ isStr 26 = false := by decide +kernel
theorem ri_26 {x : Int} : retI 26 x = true := rfl
theorem mf_27 : mOwn 27 = 11 ∧ mLvl 27 = 1 ∧ mMaxL 27 = 7 ∧ mArgs 27 = 6 ∧ isMM 27 = false ∧ isStr 27 = false := by decide +kernel
theorem ri_27 {x : Int} : retI 27 x = true := rfl
theorem mf_28 : mOwn 28 = 11 ∧ mLvl 28 = 1 ∧ mMaxL 28 = 4 ∧ mArgs 28 = 2 ∧ isMM 28 = false ∧ isStr 28 = false := by decide +kernel
theorem ri_28 {x : Int} : retI 28 x = true := rfl
theorem mf_29 : mOwn 29 = 11 ∧ mLvl 29 = 6 ∧ mMaxL 29 = 2 ∧ mArgs 29 = 1 ∧ isMM 29 = false ∧ isStr 29 = false := by decide +kernel
theorem ri_29 {x : Int} : retI 29 x = true := rfl
theorem mf_30 : mOwn 30 = 11 ∧ mLvl 30 = 6 ∧ mMaxL 30 = 2 ∧ mArgs 30 = 1 ∧ isMM 30 = false ∧ isStr 30 = false := by decide +kernel
theorem ri_30 {x : Int} : retI 30 x = true := rfl
theorem mf_31 : mOwn 31 = 11 ∧ mLvl 31 = 2 ∧ mMaxL 31 = 3 ∧ mArgs 31 = 2 ∧ isMM 31 = false ∧ isStr 31 = false := by decide +kernel
theorem ri_31 {x : Int} : retI 31 x = true := rfl
theorem mf_32 : mOwn 32 = 11 ∧ mLvl 32 = 1 ∧ mMaxL 32 = 2 ∧ mArgs 32 = 1 ∧ isMM 32 = false ∧ isStr 32 = false := by decide +kernel
theorem ri_32 {x : Int} : retI 32 x = true := rfl
theorem mf_33 : mOwn 33 = 11 ∧ mLvl 33 = 10 ∧ mMaxL 33 = 5 ∧ mArgs 33 = 2 ∧ isMM 33 = false ∧ isStr 33 = false := by decide +kernel
theorem ri_33 {x : Int} : retI 33 x = true := rfl
theorem mf_34 : mOwn 34 = 11 ∧ mLvl 34 = 6 ∧ mMaxL 34 = 2 ∧ mArgs 34 = 1 ∧ isMM 34 = false ∧ isStr 34 = false := by decide +kernel
theorem ri_34 {x : Int} : retI 34 x = true := rfl
theorem mf_35 : mOwn 35 = 11 ∧ mLvl 35 = 6 ∧ mMaxL 35 = 3 ∧ mArgs 35 = 1 ∧ isMM 35 = false ∧ isStr 35 = false := by decide +kernel
theorem ri_35 {x : Int} : retI 35 x = true := rfl
theorem mf_36 : mOwn 36 = 11 ∧ mLvl 36 = 1 ∧ mMaxL 36 = 2 ∧ mArgs 36 = 1 ∧ isMM 36 = false ∧ isStr 36 = false := by decide +kernel
theorem ri_36 {x : Int} : retI 36 x = true := rfl
theorem mf_37 : mOwn 37 = 11 ∧ mLvl 37 = 1 ∧ mMaxL 37 = 1 ∧ mArgs 37 = 0 ∧ isMM 37 = false ∧ isStr 37 = false := by decide +kernel
theorem ri_37 {x : Int} : retI 37 x = true := rfl
theorem mf_38 : mOwn 38 = 11 ∧ mLvl 38 = 1 ∧ mMaxL 38 = 5 ∧ mArgs 38 = 3 ∧ isMM 38 = false ∧ isStr 38 = false := by decide +kernel
theorem ri_38 {x : Int} : retI 38 x = true := rfl
theorem mf_39 : mOwn 39 = 11 ∧ mLvl 39 = 2 ∧ mMaxL 39 = 2 ∧ mArgs 39 = 1 ∧ isMM 39 = false ∧ isStr 39 = false := by decide +kernel
theorem ri_39 {x : Int} : retI 39 x = true := rfl
theorem mf_40 : mOwn 40 = 11 ∧ mLvl 40 = 3 ∧ mMaxL 40 = 3 ∧ mArgs 40 = 1 ∧ isMM 40 = false ∧ isStr 40 = false := by decide +kernel
theorem ri_40 {x : Int} : retI 40 x = true := rfl
theorem mf_41 : mOwn 41 = 11 ∧ mLvl 41 = 1 ∧ mMaxL 41 = 5 ∧ mArgs 41 = 3 ∧ isMM 41 = false ∧ isStr 41 = false := by decide +kernel
theorem ri_41 {x : Int} : retI 41 x = true := rfl
theorem mf_42 : mOwn 42 = 11 ∧ mLvl 42 = 2 ∧ mMaxL 42 = 1 ∧ mArgs 42 = 0 ∧ isMM 42 = false ∧ isStr 42 = false := by decide +kernel
theorem ri_42 {x : Int} : retI 42 x = true := rfl
theorem mf_43 : mOwn 43 = 11 ∧ mLvl 43 = 3 ∧ mMaxL 43 = 2 ∧ mArgs 43 = 1 ∧ isMM 43 = false ∧ isStr 43 = false := by decide +kernel
theorem ri_43 {x : Int} : retI 43 x = true := rfl
theorem mf_44 : mOwn 44 = 11 ∧ mLvl 44 = 4 ∧ mMaxL 44 = 4 ∧ mArgs 44 = 3 ∧ isMM 44 = false ∧ isStr 44 = false := by decide +kernel
theorem ri_44 {x : Int} : retI 44 x = true := rfl
theorem mf_45 : mOwn 45 = 11 ∧ mLvl 45 = 1 ∧ mMaxL 45 = 2 ∧ mArgs 45 = 1 ∧ isMM 45 = false ∧ isStr 45 = false := by decide +kernel
theorem ri_45 {x : Int} : retI 45 x = true := rfl
theorem mf_46 : mOwn 46 = 11 ∧ mLvl 46 = 1 ∧ mMaxL 46 = 4 ∧ mArgs 46 = 2 ∧ isMM 46 = false ∧ isStr 46 = false := by decide +kernel
theorem ri_46 {x : Int} : retI 46 x = true := rfl
theorem mf_47 : mOwn 47 = 11 ∧ mLvl 47 = 1 ∧ mMaxL 47 = 2 ∧ mArgs 47 = 1 ∧ isMM 47 = false ∧ isStr 47 = false := by decide +kernel
theorem ri_47 {x : Int} : retI 47 x = true := rfl
theorem mf_48 : mOwn 48 = 11 ∧ mLvl 48 = 2 ∧ mMaxL 48 = 4 ∧ mArgs 48 = 3 ∧ isMM 48 = false ∧ isStr 48 = false := by decide +kernel
theorem ri_48 {x : Int} : retI 48 x = true := rfl
theorem mf_49 : mOwn 49 = 11 ∧ mLvl 49 = 1 ∧ mMaxL 49 = 4 ∧ mArgs 49 = 3 ∧ isMM 49 = false ∧ isStr 49 = false := by decide +kernel
theorem ri_49 {x : Int} : retI 49 x = true := rfl
theorem mf_50 : mOwn 50 = 11 ∧ mLvl 50 = 1 ∧ mMaxL 50 = 6 ∧ mArgs 50 = 5 ∧ isMM 50 = false ∧ isStr 50 = false := by decide +kernel
theorem ri_50 {x : Int} : retI 50 x = true := rfl
theorem mf_51 : mOwn 51 = 11 ∧ mLvl 51 = 2 ∧ mMaxL 51 = 4 ∧ mArgs 51 = 1 ∧ isMM 51 = false ∧ isStr 51 = false := by decide +kernel
theorem ri_51 {x : Int} : retI 51 x = true := rfl
theorem mf_52 : mOwn 52 = 11 ∧ mLvl 52 = 3 ∧ mMaxL 52 = 2 ∧ mArgs 52 = 2 ∧ isMM 52 = false ∧ isStr 52 = false := by decide +kernel
theorem ri_52 {x : Int} : retI 52 x = true := rfl
theorem mf_53 : mOwn 53 = 11 ∧ mLvl 53 = 0 ∧ mMaxL 53 = 4 ∧ mArgs 53 = 3 ∧ isMM 53 = false ∧ isStr 53 = false := by decide +kernel
theorem ri_53 {x : Int} : retI 53 x = true := rfl
theorem mf_54 : mOwn 54 = 11 ∧ mLvl 54 = 0 ∧ mMaxL 54 = 3 ∧ mArgs 54 = 3 ∧ isMM 54 = false ∧ isStr 54 = false := by decide +kernel
theorem ri_54 {x : Int} (h : x = 0 ∨ x = 1) : retI 54 x = true := by
  show (x == 0 || x == 1) = true
  simpa using h
theorem mf_55 : mOwn 55 = 11 ∧ mLvl 55 = 1 ∧ mMaxL 55 = 1 ∧ mArgs 55 = 1 ∧ isMM 55 = false ∧ isStr 55 = false := by decide +kernel
theorem ri_55 {x : Int} (h : x = 0 ∨ x = 1) : retI 55 x = true := by
  show (x == 0 || x == 1) = true
  simpa using h
theorem mf_56 : mOwn 56 = 11 ∧ mLvl 56 = 1 ∧ mMaxL 56 = 1 ∧ mArgs 56 = 1 ∧ isMM 56 = false ∧ isStr 56 = false := by decide +kernel
theorem ri_56 {x : Int} (h : x = 0 ∨ x = 1) : retI 56 x = true := by
  show (x == 0 || x == 1) = true
  simpa using h
theorem mf_57 : mOwn 57 = 11 ∧ mLvl 57 = 0 ∧ mMaxL 57 = 2 ∧ mArgs 57 = 2 ∧ isMM 57 = false ∧ isStr 57 = false := by decide +kernel
theorem ri_57 {x : Int} (h : x = 0 ∨ x = 1) : retI 57 x = true := by
  show (x == 0 || x == 1) = true
  simpa using h
theorem mf_58 : mOwn 58 = 11 ∧ mLvl 58 = 0 ∧ mMaxL 58 = 1 ∧ mArgs 58 = 1 ∧ isMM 58 = false ∧ isStr 58 = false := by decide +kernel
theorem ri_58 {x : Int} : retI 58 x = true := rfl
theorem mf_59 : mOwn 59 = 11 ∧ mLvl 59 = 0 ∧ mMaxL 59 = 2 ∧ mArgs 59 = 2 ∧ isMM 59 = false ∧ isStr 59 = false := by decide +kernel
theorem ri_59 {x : Int} : retI 59 x = true := rfl
theorem mf_60 : mOwn 60 = 11 ∧ mLvl 60 = 0 ∧ mMaxL 60 = 1 ∧ mArgs 60 = 1 ∧ isMM 60 = false ∧ isStr 60 = false := by decide +kernel
theorem ra_60 : retA 60 = true := rfl
theorem mf_61 : mOwn 61 = 11 ∧ mLvl 61 = 0 ∧ mMaxL 61 = 3 ∧ mArgs 61 = 3 ∧ isMM 61 = false ∧ isStr 61 = false := by decide +kernel
theorem ri_61 {x : Int} (h : x = 0 ∨ x = 1) : retI 61 x = true := by
  show (x == 0 || x == 1) = true
  simpa using h
theorem mf_62 : mOwn 62 = 11 ∧ mLvl 62 = 0 ∧ mMaxL 62 = 1 ∧ mArgs 62 = 1 ∧ isMM 62 = false ∧ isStr 62 = false := by decide +kernel
theorem ri_62 {x : Int} : retI 62 x = true := rfl
theorem mf_63 : mOwn 63 = 11 ∧ mLvl 63 = 0 ∧ mMaxL 63 = 1 ∧ mArgs 63 = 1 ∧ isMM 63 = false ∧ isStr 63 = false := by decide +kernel
theorem ri_63 {x : Int} : retI 63 x = true := rfl
theorem mf_64 : mOwn 64 = 11 ∧ mLvl 64 = 0 ∧ mMaxL 64 = 6 ∧ mArgs 64 = 3 ∧ isMM 64 = false ∧ isStr 64 = false := by decide +kernel
theorem ri_64 {x : Int} : retI 64 x = true := rfl
theorem mf_65 : mOwn 65 = 12 ∧ mLvl 65 = 1 ∧ mMaxL 65 = 1 ∧ mArgs 65 = 0 ∧ isMM 65 = false ∧ isStr 65 = false := by decide +kernel
theorem rv_65 : mRet 65 = none := rfl
theorem mf_66 : mOwn 66 = 12 ∧ mLvl 66 = 0 ∧ mMaxL 66 = 3 ∧ mArgs 66 = 3 ∧ isMM 66 = false ∧ isStr 66 = false := by decide +kernel
theorem ri_66 {x : Int} (h : x = 0 ∨ x = 1) : retI 66 x = true := by
  show (x == 0 || x == 1) = true
  simpa using h
theorem mf_67 : mOwn 67 = 12 ∧ mLvl 67 = 1 ∧ mMaxL 67 = 1 ∧ mArgs 67 = 1 ∧ isMM 67 = false ∧ isStr 67 = false := by decide +kernel
theorem ri_67 {x : Int} (h : x = 0 ∨ x = 1) : retI 67 x = true := by
  show (x == 0 || x == 1) = true
  simpa using h
theorem mf_68 : mOwn 68 = 12 ∧ mLvl 68 = 1 ∧ mMaxL 68 = 2 ∧ mArgs 68 = 1 ∧ isMM 68 = false ∧ isStr 68 = false := by decide +kernel
theorem ri_68 {x : Int} (h : x = 0 ∨ x = 1) : retI 68 x = true := by
  show (x == 0 || x == 1) = true
  simpa using h
theorem mf_69 : mOwn 69 = 12 ∧ mLvl 69 = 1 ∧ mMaxL 69 = 2 ∧ mArgs 69 = 1 ∧ isMM 69 = false ∧ isStr 69 = false := by decide +kernel
theorem ri_69 {x : Int} (h : x = 0 ∨ x = 1) : retI 69 x = true := by
  show (x == 0 || x == 1) = true
  simpa using h
theorem mf_70 : mOwn 70 = 12 ∧ mLvl 70 = 1 ∧ mMaxL 70 = 1 ∧ mArgs 70 = 1 ∧ isMM 70 = false ∧ isStr 70 = false := by decide +kernel
theorem ri_70 {x : Int} (h : x = 0 ∨ x = 1) : retI 70 x = true := by
  show (x == 0 || x == 1) = true
  simpa using h
theorem mf_71 : mOwn 71 = 12 ∧ mLvl 71 = 0 ∧ mMaxL 71 = 1 ∧ mArgs 71 = 1 ∧ isMM 71 = false ∧ isStr 71 = false := by decide +kernel
theorem ri_71 {x : Int} : retI 71 x = true := rfl
theorem mf_72 : mOwn 72 = 12 ∧ mLvl 72 = 0 ∧ mMaxL 72 = 1 ∧ mArgs 72 = 1 ∧ isMM 72 = false ∧ isStr 72 = false := by decide +kernel
theorem ri_72 {x : Int} : retI 72 x = true := rfl
theorem mf_73 : mOwn 73 = 12 ∧ mLvl 73 = 1 ∧ mMaxL 73 = 2 ∧ mArgs 73 = 2 ∧ isMM 73 = false ∧ isStr 73 = false := by decide +kernel
theorem ri_73 {x : Int} : retI 73 x = true := rfl
theorem mf_74 : mOwn 74 = 12 ∧ mLvl 74 = 1 ∧ mMaxL 74 = 2 ∧ mArgs 74 = 1 ∧ isMM 74 = false ∧ isStr 74 = false := by decide +kernel
theorem ri_74 {x : Int} : retI 74 x = true := rfl
theorem mf_75 : mOwn 75 = 12 ∧ mLvl 75 = 1 ∧ mMaxL 75 = 4 ∧ mArgs 75 = 2 ∧ isMM 75 = false ∧ isStr 75 = false := by decide +kernel
theorem ri_75 {x : Int} : retI 75 x = true := rfl
theorem mf_76 : mOwn 76 = 12 ∧ mLvl 76 = 0 ∧ mMaxL 76 = 1 ∧ mArgs 76 = 0 ∧ isMM 76 = false ∧ isStr 76 = false := by decide +kernel
theorem ri_76 {x : Int} : retI 76 x = true := rfl
theorem mf_77 : mOwn 77 = 12 ∧ mLvl 77 = 1 ∧ mMaxL 77 = 2 ∧ mArgs 77 = 1 ∧ isMM 77 = false ∧ isStr 77 = false := by decide +kernel
theorem rv_77 : mRet 77 = none := rfl
theorem mf_78 : mOwn 78 = 12 ∧ mLvl 78 = 2 ∧ mMaxL 78 = 5 ∧ mArgs 78 = 4 ∧ isMM 78 = false ∧ isStr 78 = false := by decide +kernel
theorem rv_78 : mRet 78 = none := rfl
theorem mf_79 : mOwn 79 = 12 ∧ mLvl 79 = 1 ∧ mMaxL 79 = 4 ∧ mArgs 79 = 2 ∧ isMM 79 = false ∧ isStr 79 = false := by decide +kernel
theorem ri_79 {x : Int} : retI 79 x = true := rfl
theorem mf_80 : mOwn 80 = 12 ∧ mLvl 80 = 3 ∧ mMaxL 80 = 2 ∧ mArgs 80 = 0 ∧ isMM 80 = false ∧ isStr 80 = false := by decide +kernel
theorem ri_80 {x : Int} : retI 80 x = true := rfl
theorem mf_81 : mOwn 81 = 12 ∧ mLvl 81 = 3 ∧ mMaxL 81 = 1 ∧ mArgs 81 = 0 ∧ isMM 81 = false ∧ isStr 81 = false := by decide +kernel
theorem ri_81 {x : Int} : retI 81 x = true := rfl
theorem mf_82 : mOwn 82 = 12 ∧ mLvl 82 = 4 ∧ mMaxL 82 = 4 ∧ mArgs 82 = 1 ∧ isMM 82 = false ∧ isStr 82 = false := by decide +kernel
theorem ri_82 {x : Int} : retI 82 x = true := rfl
theorem mf_83 : mOwn 83 = 12 ∧ mLvl 83 = 5 ∧ mMaxL 83 = 7 ∧ mArgs 83 = 1 ∧ isMM 83 = false ∧ isStr 83 = false := by decide +kernel
theorem ri_83 {x : Int} : retI 83 x = true := rfl
theorem mf_84 : mOwn 84 = 12 ∧ mLvl 84 = 2 ∧ mMaxL 84 = 6 ∧ mArgs 84 = 2 ∧ isMM 84 = false ∧ isStr 84 = false := by decide +kernel
theorem ri_84 {x : Int} (h : x = 0 ∨ x = 1) : retI 84 x = true := by
  show (x == 0 || x == 1) = true
  simpa using h
theorem mf_85 : mOwn 85 = 12 ∧ mLvl 85 = 3 ∧ mMaxL 85 = 7 ∧ mArgs 85 = 2 ∧ isMM 85 = false ∧ isStr 85 = false := by decide +kernel
theorem ri_85 {x : Int} (h : x = 0 ∨ x = 1) : retI 85 x = true := by
  show (x == 0 || x == 1) = true
  simpa using h
theorem mf_86 : mOwn 86 = 12 ∧ mLvl 86 = 6 ∧ mMaxL 86 = 8 ∧ mArgs 86 = 5 ∧ isMM 86 = false ∧ isStr 86 = false := by decide +kernel
theorem ri_86 {x : Int} : retI 86 x = true := rfl
theorem mf_87 : mOwn 87 = 12 ∧ mLvl 87 = 2 ∧ mMaxL 87 = 3 ∧ mArgs 87 = 2 ∧ isMM 87 = false ∧ isStr 87 = false := by decide +kernel
theorem ri_87 {x : Int} : retI 87 x = true := rfl
theorem mf_88 : mOwn 88 = 12 ∧ mLvl 88 = 2 ∧ mMaxL 88 = 2 ∧ mArgs 88 = 1 ∧ isMM 88 = false ∧ isStr 88 = false := by decide +kernel
theorem ri_88 {x : Int} : retI 88 x = true := rfl
theorem mf_89 : mOwn 89 = 12 ∧ mLvl 89 = 2 ∧ mMaxL 89 = 3 ∧ mArgs 89 = 2 ∧ isMM 89 = false ∧ isStr 89 = false := by decide +kernel
theorem ri_89 {x : Int} : retI 89 x = true := rfl
theorem mf_90 : mOwn 90 = 12 ∧ mLvl 90 = 4 ∧ mMaxL 90 = 3 ∧ mArgs 90 = 2 ∧ isMM 90 = false ∧ isStr 90 = false := by decide +kernel
theorem ri_90 {x : Int} : retI 90 x = true := rfl
theorem mf_91 : mOwn 91 = 12 ∧ mLvl 91 = 0 ∧ mMaxL 91 = 6 ∧ mArgs 91 = 3 ∧ isMM 91 = false ∧ isStr 91 = false := by decide +kernel
theorem ri_91 {x : Int} (h : x = 0 ∨ x = 1) : retI 91 x = true := by
  show (x == 0 || x == 1) = true
  simpa using h
theorem mf_92 : mOwn 92 = 12 ∧ mLvl 92 = 4 ∧ mMaxL 92 = 10 ∧ mArgs 92 = 6 ∧ isMM 92 = false ∧ isStr 92 = false := by decide +kernel
theorem ri_92 {x : Int} : retI 92 x = true := rfl
theorem mf_93 : mOwn 93 = 12 ∧ mLvl 93 = 5 ∧ mMaxL 93 = 5 ∧ mArgs 93 = 4 ∧ isMM 93 = false ∧ isStr 93 = false := by decide +kernel
theorem ri_93 {x : Int} : retI 93 x = true := rfl
theorem mf_94 : mOwn 94 = 12 ∧ mLvl 94 = 2 ∧ mMaxL 94 = 4 ∧ mArgs 94 = 4 ∧ isMM 94 = false ∧ isStr 94 = false := by decide +kernel
theorem ri_94 {x : Int} (h : x = 0 ∨ x = 1) : retI 94 x = true := by
  show (x == 0 || x == 1) = true
  simpa using h
theorem mf_95 : mOwn 95 = 12 ∧ mLvl 95 = 6 ∧ mMaxL 95 = 5 ∧ mArgs 95 = 4 ∧ isMM 95 = false ∧ isStr 95 = false := by decide +kernel
theorem ri_95 {x : Int} : retI 95 x = true := rfl
theorem mf_96 : mOwn 96 = 12 ∧ mLvl 96 = 6 ∧ mMaxL 96 = 10 ∧ mArgs 96 = 5 ∧ isMM 96 = false ∧ isStr 96 = false := by decide +kernel
theorem ri_96 {x : Int} : retI 96 x = true := rfl
theorem mf_97 : mOwn 97 = 12 ∧ mLvl 97 = 1 ∧ mMaxL 97 = 3 ∧ mArgs 97 = 2 ∧ isMM 97 = false ∧ isStr 97 = false := by decide +kernel
theorem ri_97 {x : Int} : retI 97 x = true := rfl
theorem mf_98 : mOwn 98 = 12 ∧ mLvl 98 = 2 ∧ mMaxL 98 = 3 ∧ mArgs 98 = 2 ∧ isMM 98 = false ∧ isStr 98 = false := by decide +kernel
theorem ri_98 {x : Int} : retI 98 x = true := rfl
theorem mf_99 : mOwn 99 = 12 ∧ mLvl 99 = 0 ∧ mMaxL 99 = 3 ∧ mArgs 99 = 2 ∧ isMM 99 = false ∧ isStr 99 = false := by decide +kernel
theorem ri_99 {x : Int} (h : x = 0 ∨ x = 1) : retI 99 x = true := by
  show (x == 0 || x == 1) = true
  simpa using h
theorem mf_100 : mOwn 100 = 12 ∧ mLvl 100 = 6 ∧ mMaxL 100 = 7 ∧ mArgs 100 = 5 ∧ isMM 100 = false ∧ isStr 100 = false := by decide +kernel
theorem ri_100 {x : Int} : retI 100 x = true := rfl
theorem mf_101 : mOwn 101 = 12 ∧ mLvl 101 = 7 ∧ mMaxL 101 = 6 ∧ mArgs 101 = 5 ∧ isMM 101 = false ∧ isStr 101 = false := by decide +kernel
theorem ri_101 {x : Int} : retI 101 x = true := rfl
theorem mf_102 : mOwn 102 = 12 ∧ mLvl 102 = 2 ∧ mMaxL 102 = 3 ∧ mArgs 102 = 2 ∧ isMM 102 = false ∧ isStr 102 = false := by decide +kernel
theorem ri_102 {x : Int} : retI 102 x = true := rfl
theorem mf_103 : mOwn 103 = 12 ∧ mLvl 103 = 7 ∧ mMaxL 103 = 4 ∧ mArgs 103 = 3 ∧ isMM 103 = false ∧ isStr 103 = false := by decide +kernel
theorem ri_103 {x : Int} : retI 103 x = true := rfl
theorem mf_104 : mOwn 104 = 12 ∧ mLvl 104 = 8 ∧ mMaxL 104 = 4 ∧ mArgs 104 = 3 ∧ isMM 104 = false ∧ isStr 104 = false := by decide +kernel
theorem ri_104 {x : Int} : retI 104 x = true := rfl
theorem mf_105 : mOwn 105 = 12 ∧ mLvl 105 = 8 ∧ mMaxL 105 = 7 ∧ mArgs 105 = 2 ∧ isMM 105 = false ∧ isStr 105 = false := by decide +kernel
theorem ri_105 {x : Int} : retI 105 x = true := rfl
theorem mf_106 : mOwn 106 = 12 ∧ mLvl 106 = 2 ∧ mMaxL 106 = 4 ∧ mArgs 106 = 2 ∧ isMM 106 = false ∧ isStr 106 = false := by decide +kernel
theorem ri_106 {x : Int} : retI 106 x = true := rfl
theorem mf_107 : mOwn 107 = 12 ∧ mLvl 107 = 1 ∧ mMaxL 107 = 3 ∧ mArgs 107 = 1 ∧ isMM 107 = false ∧ isStr 107 = false := by decide +kernel
theorem ri_107 {x : Int} : retI 107 x = true := rfl
theorem mf_108 : mOwn 108 = 12 ∧ mLvl 108 = 7 ∧ mMaxL 108 = 7 ∧ mArgs 108 = 4 ∧ isMM 108 = false ∧ isStr 108 = false := by decide +kernel
theorem ri_108 {x : Int} : retI 108 x = true := rfl
theorem mf_109 : mOwn 109 = 12 ∧ mLvl 109 = 2 ∧ mMaxL 109 = 6 ∧ mArgs 109 = 2 ∧ isMM 109 = false ∧ isStr 109 = false := by decide +kernel
theorem ri_109 {x : Int} (h : x = 0 ∨ x = 1) : retI 109 x = true := by
  show (x == 0 || x == 1) = true
  simpa using h
theorem mf_110 : mOwn 110 = 12 ∧ mLvl 110 = 0 ∧ mMaxL 110 = 3 ∧ mArgs 110 = 1 ∧ isMM 110 = false ∧ isStr 110 = false := by decide +kernel
theorem ri_110 {x : Int} : retI 110 x = true := rfl
theorem mf_111 : mOwn 111 = 12 ∧ mLvl 111 = 3 ∧ mMaxL 111 = 6 ∧ mArgs 111 = 1 ∧ isMM 111 = false ∧ isStr 111 = false := by decide +kernel
theorem ri_111 {x : Int} : retI 111 x = true := rfl
theorem mf_112 : mOwn 112 = 12 ∧ mLvl 112 = 6 ∧ mMaxL 112 = 5 ∧ mArgs 112 = 3 ∧ isMM 112 = false ∧ isStr 112 = false := by decide +kernel
theorem ri_112 {x : Int} : retI 112 x = true := rfl
theorem mf_113 : mOwn 113 = 12 ∧ mLvl 113 = 6 ∧ mMaxL 113 = 5 ∧ mArgs 113 = 3 ∧ isMM 113 = false ∧ isStr 113 = false := by decide +kernel
theorem ri_113 {x : Int} : retI 113 x = true := rfl
theorem mf_114 : mOwn 114 = 12 ∧ mLvl 114 = 0 ∧ mMaxL 114 = 4 ∧ mArgs 114 = 3 ∧ isMM 114 = false ∧ isStr 114 = false := by decide +kernel
theorem ri_114 {x : Int} : retI 114 x = true := rfl
theorem mf_115 : mOwn 115 = 12 ∧ mLvl 115 = 2 ∧ mMaxL 115 = 4 ∧ mArgs 115 = 3 ∧ isMM 115 = false ∧ isStr 115 = false := by decide +kernel
theorem ri_115 {x : Int} : retI 115 x = true := rfl
theorem mf_116 : mOwn 116 = 12 ∧ mLvl 116 = 2 ∧ mMaxL 116 = 8 ∧ mArgs 116 = 4 ∧ isMM 116 = false ∧ isStr 116 = false := by decide +kernel
theorem ri_116 {x : Int} : retI 116 x = true := rfl
theorem mf_117 : mOwn 117 = 12 ∧ mLvl 117 = 3 ∧ mMaxL 117 = 2 ∧ mArgs 117 = 2 ∧ isMM 117 = false ∧ isStr 117 = false := by decide +kernel
theorem ri_117 {x : Int} (h : x = 0 ∨ x = 1) : retI 117 x = true := by
  show (x == 0 || x == 1) = true
  simpa using h
theorem mf_118 : mOwn 118 = 12 ∧ mLvl 118 = 4 ∧ mMaxL 118 = 7 ∧ mArgs 118 = 2 ∧ isMM 118 = false ∧ isStr 118 = false := by decide +kernel
theorem ri_118 {x : Int} (h : x = 0 ∨ x = 1) : retI 118 x = true := by
  show (x == 0 || x == 1) = true
  simpa using h
theorem mf_119 : mOwn 119 = 12 ∧ mLvl 119 = 5 ∧ mMaxL 119 = 4 ∧ mArgs 119 = 1 ∧ isMM 119 = false ∧ isStr 119 = false := by decide +kernel
theorem ri_119 {x : Int} : retI 119 x = true := rfl
theorem mf_120 : mOwn 120 = 12 ∧ mLvl 120 = 6 ∧ mMaxL 120 = 2 ∧ mArgs 120 = 1 ∧ isMM 120 = false ∧ isStr 120 = false := by decide +kernel
theorem ri_120 {x : Int} : retI 120 x = true := rfl
theorem mf_121 : mOwn 121 = 12 ∧ mLvl 121 = 6 ∧ mMaxL 121 = 6 ∧ mArgs 121 = 2 ∧ isMM 121 = false ∧ isStr 121 = false := by decide +kernel
theorem ri_121 {x : Int} : retI 121 x = true := rfl
theorem mf_122 : mOwn 122 = 12 ∧ mLvl 122 = 6 ∧ mMaxL 122 = 9 ∧ mArgs 122 = 2 ∧ isMM 122 = false ∧ isStr 122 = false := by decide +kernel
theorem ri_122 {x : Int} : retI 122 x = true := rfl
theorem mf_123 : mOwn 123 = 12 ∧ mLvl 123 = 2 ∧ mMaxL 123 = 5 ∧ mArgs 123 = 2 ∧ isMM 123 = false ∧ isStr 123 = false := by decide +kernel
theorem ri_123 {x : Int} : retI 123 x = true := rfl
theorem mf_124 : mOwn 124 = 12 ∧ mLvl 124 = 1 ∧ mMaxL 124 = 3 ∧ mArgs 124 = 2 ∧ isMM 124 = false ∧ isStr 124 = false := by decide +kernel
theorem ri_124 {x : Int} (h : x = 0 ∨ x = 1) : retI 124 x = true := by
  show (x == 0 || x == 1) = true
  simpa using h
theorem mf_125 : mOwn 125 = 12 ∧ mLvl 125 = 6 ∧ mMaxL 125 = 11 ∧ mArgs 125 = 2 ∧ isMM 125 = false ∧ isStr 125 = false := by decide +kernel
theorem ri_125 {x : Int} : retI 125 x = true := rfl
theorem mf_126 : mOwn 126 = 12 ∧ mLvl 126 = 2 ∧ mMaxL 126 = 7 ∧ mArgs 126 = 6 ∧ isMM 126 = false ∧ isStr 126 = false := by decide +kernel
theorem ri_126 {x : Int} : retI 126 x = true := rfl
theorem mf_127 : mOwn 127 = 12 ∧ mLvl 127 = 0 ∧ mMaxL 127 = 3 ∧ mArgs 127 = 2 ∧ isMM 127 = false ∧ isStr 127 = false := by decide +kernel
theorem ri_127 {x : Int} (h : x = 0 ∨ x = 1) : retI 127 x = true := by
  show (x == 0 || x == 1) = true
  simpa using h
theorem mf_128 : mOwn 128 = 12 ∧ mLvl 128 = 1 ∧ mMaxL 128 = 4 ∧ mArgs 128 = 1 ∧ isMM 128 = false ∧ isStr 128 = false := by decide +kernel
theorem ri_128 {x : Int} : retI 128 x = true := rfl
theorem mf_129 : mOwn 129 = 12 ∧ mLvl 129 = 1 ∧ mMaxL 129 = 3 ∧ mArgs 129 = 1 ∧ isMM 129 = false ∧ isStr 129 = false := by decide +kernel
theorem ri_129 {x : Int} : retI 129 x = true := rfl
theorem mf_130 : mOwn 130 = 12 ∧ mLvl 130 = 2 ∧ mMaxL 130 = 7 ∧ mArgs 130 = 3 ∧ isMM 130 = false ∧ isStr 130 = false := by decide +kernel
theorem rv_130 : mRet 130 = none := rfl
theorem mf_131 : mOwn 131 = 12 ∧ mLvl 131 = 3 ∧ mMaxL 131 = 6 ∧ mArgs 131 = 3 ∧ isMM 131 = false ∧ isStr 131 = false := by decide +kernel
theorem rv_131 : mRet 131 = none := rfl
theorem mf_132 : mOwn 132 = 12 ∧ mLvl 132 = 4 ∧ mMaxL 132 = 5 ∧ mArgs 132 = 2 ∧ isMM 132 = false ∧ isStr 132 = false := by decide +kernel
theorem rv_132 : mRet 132 = none := rfl
theorem mf_133 : mOwn 133 = 12 ∧ mLvl 133 = 7 ∧ mMaxL 133 = 6 ∧ mArgs 133 = 1 ∧ isMM 133 = false ∧ isStr 133 = false := by decide +kernel
theorem ri_133 {x : Int} : retI 133 x = true := rfl
theorem mf_134 : mOwn 134 = 12 ∧ mLvl 134 = 7 ∧ mMaxL 134 = 3 ∧ mArgs 134 = 1 ∧ isMM 134 = false ∧ isStr 134 = false := by decide +kernel
theorem ri_134 {x : Int} : retI 134 x = true := rfl
theorem mf_135 : mOwn 135 = 12 ∧ mLvl 135 = 2 ∧ mMaxL 135 = 3 ∧ mArgs 135 = 2 ∧ isMM 135 = false ∧ isStr 135 = false := by decide +kernel
theorem ri_135 {x : Int} : retI 135 x = true := rfl
theorem mf_136 : mOwn 136 = 12 ∧ mLvl 136 = 2 ∧ mMaxL 136 = 4 ∧ mArgs 136 = 1 ∧ isMM 136 = false ∧ isStr 136 = false := by decide +kernel
theorem ri_136 {x : Int} : retI 136 x = true := rfl
theorem mf_137 : mOwn 137 = 12 ∧ mLvl 137 = 6 ∧ mMaxL 137 = 5 ∧ mArgs 137 = 2 ∧ isMM 137 = false ∧ isStr 137 = false := by decide +kernel
theorem ri_137 {x : Int} : retI 137 x = true := rfl
theorem mf_138 : mOwn 138 = 12 ∧ mLvl 138 = 6 ∧ mMaxL 138 = 3 ∧ mArgs 138 = 0 ∧ isMM 138 = false ∧ isStr 138 = false := by decide +kernel
theorem rv_138 : mRet 138 = none := rfl
theorem mf_139 : mOwn 139 = 12 ∧ mLvl 139 = 4 ∧ mMaxL 139 = 7 ∧ mArgs 139 = 0 ∧ isMM 139 = false ∧ isStr 139 = false := by decide +kernel
theorem ri_139 {x : Int} : retI 139 x = true := rfl
theorem mf_140 : mOwn 140 = 12 ∧ mLvl 140 = 7 ∧ mMaxL 140 = 4 ∧ mArgs 140 = 1 ∧ isMM 140 = false ∧ isStr 140 = false := by decide +kernel
theorem ri_140 {x : Int} : retI 140 x = true := rfl
theorem mf_141 : mOwn 141 = 12 ∧ mLvl 141 = 7 ∧ mMaxL 141 = 7 ∧ mArgs 141 = 1 ∧ isMM 141 = false ∧ isStr 141 = false := by decide +kernel
theorem ri_141 {x : Int} : retI 141 x = true := rfl
theorem mf_142 : mOwn 142 = 12 ∧ mLvl 142 = 1 ∧ mMaxL 142 = 2 ∧ mArgs 142 = 1 ∧ isMM 142 = false ∧ isStr 142 = false := by decide +kernel
theorem ri_142 {x : Int} : retI 142 x = true := rfl
theorem mf_143 : mOwn 143 = 12 ∧ mLvl 143 = 0 ∧ mMaxL 143 = 1 ∧ mArgs 143 = 0 ∧ isMM 143 = false ∧ isStr 143 = false := by decide +kernel
theorem ri_143 {x : Int} : retI 143 x = true := rfl
theorem mf_144 : mOwn 144 = 12 ∧ mLvl 144 = 1 ∧ mMaxL 144 = 5 ∧ mArgs 144 = 3 ∧ isMM 144 = false ∧ isStr 144 = false := by decide +kernel
theorem ri_144 {x : Int} : retI 144 x = true := rfl
theorem mf_145 : mOwn 145 = 12 ∧ mLvl 145 = 0 ∧ mMaxL 145 = 6 ∧ mArgs 145 = 1 ∧ isMM 145 = false ∧ isStr 145 = false := by decide +kernel
theorem ri_145 {x : Int} : retI 145 x = true := rfl
theorem mf_146 : mOwn 146 = 12 ∧ mLvl 146 = 1 ∧ mMaxL 146 = 2 ∧ mArgs 146 = 1 ∧ isMM 146 = false ∧ isStr 146 = false := by decide +kernel
theorem ri_146 {x : Int} : retI 146 x = true := rfl
theorem mf_147 : mOwn 147 = 12 ∧ mLvl 147 = 1 ∧ mMaxL 147 = 7 ∧ mArgs 147 = 1 ∧ isMM 147 = false ∧ isStr 147 = false := by decide +kernel
theorem ri_147 {x : Int} : retI 147 x = true := rfl
theorem mf_148 : mOwn 148 = 12 ∧ mLvl 148 = 0 ∧ mMaxL 148 = 5 ∧ mArgs 148 = 2 ∧ isMM 148 = false ∧ isStr 148 = false := by decide +kernel
theorem ri_148 {x : Int} (h : x = 0 ∨ x = 1) : retI 148 x = true := by
  show (x == 0 || x == 1) = true
  simpa using h
theorem mf_149 : mOwn 149 = 12 ∧ mLvl 149 = 2 ∧ mMaxL 149 = 6 ∧ mArgs 149 = 3 ∧ isMM 149 = false ∧ isStr 149 = false := by decide +kernel
theorem ri_149 {x : Int} : retI 149 x = true := rfl
theorem mf_150 : mOwn 150 = 12 ∧ mLvl 150 = 0 ∧ mMaxL 150 = 3 ∧ mArgs 150 = 2 ∧ isMM 150 = false ∧ isStr 150 = false := by decide +kernel
theorem ri_150 {x : Int} (h : x = 0 ∨ x = 1) : retI 150 x = true := by
  show (x == 0 || x == 1) = true
  simpa using h
theorem mf_151 : mOwn 151 = 12 ∧ mLvl 151 = 0 ∧ mMaxL 151 = 4 ∧ mArgs 151 = 1 ∧ isMM 151 = false ∧ isStr 151 = false := by decide +kernel
theorem ri_151 {x : Int} : retI 151 x = true := rfl
theorem mf_152 : mOwn 152 = 12 ∧ mLvl 152 = 1 ∧ mMaxL 152 = 5 ∧ mArgs 152 = 0 ∧ isMM 152 = false ∧ isStr 152 = false := by decide +kernel
theorem rv_152 : mRet 152 = none := rfl
theorem mf_153 : mOwn 153 = 12 ∧ mLvl 153 = 2 ∧ mMaxL 153 = 1 ∧ mArgs 153 = 0 ∧ isMM 153 = false ∧ isStr 153 = false := by decide +kernel
theorem ri_153 {x : Int} : retI 153 x = true := rfl
theorem mf_154 : mOwn 154 = 12 ∧ mLvl 154 = 2 ∧ mMaxL 154 = 2 ∧ mArgs 154 = 1 ∧ isMM 154 = false ∧ isStr 154 = false := by decide +kernel
theorem ri_154 {x : Int} : retI 154 x = true := rfl
theorem mf_155 : mOwn 155 = 12 ∧ mLvl 155 = 0 ∧ mMaxL 155 = 2 ∧ mArgs 155 = 1 ∧ isMM 155 = false ∧ isStr 155 = false := by decide +kernel
theorem rv_155 : mRet 155 = none := rfl
theorem mf_156 : mOwn 156 = 12 ∧ mLvl 156 = 1 ∧ mMaxL 156 = 2 ∧ mArgs 156 = 1 ∧ isMM 156 = false ∧ isStr 156 = false := by decide +kernel
theorem ri_156 {x : Int} : retI 156 x = true := rfl
theorem mf_157 : mOwn 157 = 12 ∧ mLvl 157 = 2 ∧ mMaxL 157 = 3 ∧ mArgs 157 = 1 ∧ isMM 157 = false ∧ isStr 157 = false := by decide +kernel
theorem ri_157 {x : Int} : retI 157 x = true := rfl
theorem mf_158 : mOwn 158 = 12 ∧ mLvl 158 = 3 ∧ mMaxL 158 = 2 ∧ mArgs 158 = 1 ∧ isMM 158 = false ∧ isStr 158 = false := by decide +kernel
theorem ri_158 {x : Int} : retI 158 x = true := rfl
theorem mf_159 : mOwn 159 = 12 ∧ mLvl 159 = 4 ∧ mMaxL 159 = 2 ∧ mArgs 159 = 1 ∧ isMM 159 = false ∧ isStr 159 = false := by decide +kernel
theorem ri_159 {x : Int} : retI 159 x = true := rfl
theorem mf_160 : mOwn 160 = 12 ∧ mLvl 160 = 5 ∧ mMaxL 160 = 3 ∧ mArgs 160 = 1 ∧ isMM 160 = false ∧ isStr 160 = false := by decide +kernel
theorem ri_160 {x : Int} : retI 160 x = true := rfl
theorem mf_161 : mOwn 161 = 12 ∧ mLvl 161 = 6 ∧ mMaxL 161 = 3 ∧ mArgs 161 = 1 ∧ isMM 161 = false ∧ isStr 161 = false := by decide +kernel
theorem ri_161 {x : Int} : retI 161 x = true := rfl
theorem mf_162 : mOwn 162 = 12 ∧ mLvl 162 = 7 ∧ mMaxL 162 = 3 ∧ mArgs 162 = 1 ∧ isMM 162 = false ∧ isStr 162 = false := by decide +kernel
theorem ri_162 {x : Int} : retI 162 x = true := rfl
theorem mf_163 : mOwn 163 = 12 ∧ mLvl 163 = 8 ∧ mMaxL 163 = 4 ∧ mArgs 163 = 3 ∧ isMM 163 = false ∧ isStr 163 = false := by decide +kernel
theorem ri_163 {x : Int} : retI 163 x = true := rfl
theorem mf_164 : mOwn 164 = 12 ∧ mLvl 164 = 1 ∧ mMaxL 164 = 2 ∧ mArgs 164 = 1 ∧ isMM 164 = false ∧ isStr 164 = false := by decide +kernel
theorem ri_164 {x : Int} : retI 164 x = true := rfl
theorem mf_165 : mOwn 165 = 12 ∧ mLvl 165 = 0 ∧ mMaxL 165 = 1 ∧ mArgs 165 = 1 ∧ isMM 165 = false ∧ isStr 165 = false := by decide +kernel
theorem ri_165 {x : Int} : retI 165 x = true := rfl
theorem mf_166 : mOwn 166 = 12 ∧ mLvl 166 = 2 ∧ mMaxL 166 = 4 ∧ mArgs 166 = 2 ∧ isMM 166 = false ∧ isStr 166 = false := by decide +kernel
theorem ri_166 {x : Int} : retI 166 x = true := rfl
theorem mf_167 : mOwn 167 = 12 ∧ mLvl 167 = 0 ∧ mMaxL 167 = 4 ∧ mArgs 167 = 1 ∧ isMM 167 = false ∧ isStr 167 = false := by decide +kernel
theorem ri_167 {x : Int} : retI 167 x = true := rfl
theorem mf_168 : mOwn 168 = 12 ∧ mLvl 168 = 1 ∧ mMaxL 168 = 5 ∧ mArgs 168 = 3 ∧ isMM 168 = false ∧ isStr 168 = false := by decide +kernel
theorem ri_168 {x : Int} : retI 168 x = true := rfl
theorem mf_169 : mOwn 169 = 12 ∧ mLvl 169 = 1 ∧ mMaxL 169 = 4 ∧ mArgs 169 = 3 ∧ isMM 169 = false ∧ isStr 169 = false := by decide +kernel
theorem ri_169 {x : Int} : retI 169 x = true := rfl
theorem mf_170 : mOwn 170 = 12 ∧ mLvl 170 = 1 ∧ mMaxL 170 = 10 ∧ mArgs 170 = 5 ∧ isMM 170 = false ∧ isStr 170 = false := by decide +kernel
theorem ri_170 {x : Int} : retI 170 x = true := rfl
theorem mf_171 : mOwn 171 = 0 ∧ mLvl 171 = 1 ∧ mMaxL 171 = 1 ∧ mArgs 171 = 0 ∧ isMM 171 = false ∧ isStr 171 = false := by decide +kernel
theorem rv_171 : mRet 171 = none := rfl
theorem mf_172 : mOwn 172 = 0 ∧ mLvl 172 = 0 ∧ mMaxL 172 = 1 ∧ mArgs 172 = 0 ∧ isMM 172 = false ∧ isStr 172 = false := by decide +kernel
theorem ri_172 {x : Int} (h : x = 0 ∨ x = 1) : retI 172 x = true := by
  show (x == 0 || x == 1) = true
  simpa using h
theorem mf_173 : mOwn 173 = 0 ∧ mLvl 173 = 0 ∧ mMaxL 173 = 4 ∧ mArgs 173 = 3 ∧ isMM 173 = false ∧ isStr 173 = false := by decide +kernel
theorem ri_173 {x : Int} : retI 173 x = true := rfl
theorem mf_174 : mOwn 174 = 0 ∧ mLvl 174 = 2 ∧ mMaxL 174 = 4 ∧ mArgs 174 = 1 ∧ isMM 174 = false ∧ isStr 174 = false := by decide +kernel
theorem ri_174 {x : Int} : retI 174 x = true := rfl
theorem mf_175 : mOwn 175 = 0 ∧ mLvl 175 = 2 ∧ mMaxL 175 = 5 ∧ mArgs 175 = 2 ∧ isMM 175 = false ∧ isStr 175 = false := by decide +kernel
theorem ri_175 {x : Int} : retI 175 x = true := rfl
theorem mf_176 : mOwn 176 = 0 ∧ mLvl 176 = 3 ∧ mMaxL 176 = 6 ∧ mArgs 176 = 1 ∧ isMM 176 = false ∧ isStr 176 = false := by decide +kernel
theorem ri_176 {x : Int} : retI 176 x = true := rfl
theorem mf_177 : mOwn 177 = 0 ∧ mLvl 177 = 1 ∧ mMaxL 177 = 4 ∧ mArgs 177 = 1 ∧ isMM 177 = false ∧ isStr 177 = false := by decide +kernel
theorem ri_177 {x : Int} : retI 177 x = true := rfl
theorem mf_178 : mOwn 178 = 0 ∧ mLvl 178 = 1 ∧ mMaxL 178 = 3 ∧ mArgs 178 = 1 ∧ isMM 178 = false ∧ isStr 178 = false := by decide +kernel
theorem ri_178 {x : Int} : retI 178 x = true := rfl
theorem mf_179 : mOwn 179 = 0 ∧ mLvl 179 = 0 ∧ mMaxL 179 = 4 ∧ mArgs 179 = 1 ∧ isMM 179 = false ∧ isStr 179 = false := by decide +kernel
theorem ri_179 {x : Int} : retI 179 x = true := rfl
theorem mf_180 : mOwn 180 = 0 ∧ mLvl 180 = 2 ∧ mMaxL 180 = 3 ∧ mArgs 180 = 1 ∧ isMM 180 = false ∧ isStr 180 = false := by decide +kernel
theorem rv_180 : mRet 180 = none := rfl
theorem mf_181 : mOwn 181 = 0 ∧ mLvl 181 = 1 ∧ mMaxL 181 = 4 ∧ mArgs 181 = 1 ∧ isMM 181 = false ∧ isStr 181 = false := by decide +kernel
theorem rv_181 : mRet 181 = none := rfl
theorem mf_182 : mOwn 182 = 0 ∧ mLvl 182 = 1 ∧ mMaxL 182 = 8 ∧ mArgs 182 = 2 ∧ isMM 182 = false ∧ isStr 182 = false := by decide +kernel
theorem ri_182 {x : Int} (h : x = 0 ∨ x = 1) : retI 182 x = true := by
  show (x == 0 || x == 1) = true
  simpa using h
theorem mf_183 : mOwn 183 = 1 ∧ mLvl 183 = 1 ∧ mMaxL 183 = 2 ∧ mArgs 183 = 1 ∧ isMM 183 = false ∧ isStr 183 = false := by decide +kernel
theorem rv_183 : mRet 183 = none := rfl
theorem mf_184 : mOwn 184 = 1 ∧ mLvl 184 = 0 ∧ mMaxL 184 = 2 ∧ mArgs 184 = 1 ∧ isMM 184 = false ∧ isStr 184 = false := by decide +kernel
theorem ri_184 {x : Int} (h : x = 0 ∨ x = 1) : retI 184 x = true := by
  show (x == 0 || x == 1) = true
  simpa using h
theorem mf_185 : mOwn 185 = 1 ∧ mLvl 185 = 0 ∧ mMaxL 185 = 1 ∧ mArgs 185 = 0 ∧ isMM 185 = false ∧ isStr 185 = false := by decide +kernel
theorem ri_185 {x : Int} (h : x = 0 ∨ x = 1) : retI 185 x = true := by
  show (x == 0 || x == 1) = true
  simpa using h
theorem mf_186 : mOwn 186 = 1 ∧ mLvl 186 = 0 ∧ mMaxL 186 = 3 ∧ mArgs 186 = 2 ∧ isMM 186 = false ∧ isStr 186 = false := by decide +kernel
theorem ri_186 {x : Int} : retI 186 x = true := rfl
theorem mf_187 : mOwn 187 = 1 ∧ mLvl 187 = 0 ∧ mMaxL 187 = 3 ∧ mArgs 187 = 2 ∧ isMM 187 = false ∧ isStr 187 = false := by decide +kernel
theorem ri_187 {x : Int} (h : x = 0 ∨ x = 1) : retI 187 x = true := by
  show (x == 0 || x == 1) = true
  simpa using h
theorem mf_188 : mOwn 188 = 1 ∧ mLvl 188 = 1 ∧ mMaxL 188 = 5 ∧ mArgs 188 = 3 ∧ isMM 188 = false ∧ isStr 188 = false := by decide +kernel
theorem ri_188 {x : Int} (h : x = 0 ∨ x = 1) : retI 188 x = true := by
  show (x == 0 || x == 1) = true
  simpa using h
theorem mf_189 : mOwn 189 = 1 ∧ mLvl 189 = 2 ∧ mMaxL 189 = 5 ∧ mArgs 189 = 2 ∧ isMM 189 = false ∧ isStr 189 = false := by decide +kernel
theorem ri_189 {x : Int} : retI 189 x = true := rfl
theorem mf_190 : mOwn 190 = 1 ∧ mLvl 190 = 0 ∧ mMaxL 190 = 4 ∧ mArgs 190 = 1 ∧ isMM 190 = false ∧ isStr 190 = false := by decide +kernel
theorem ri_190 {x : Int} : retI 190 x = true := rfl
theorem mf_191 : mOwn 191 = 1 ∧ mLvl 191 = 4 ∧ mMaxL 191 = 7 ∧ mArgs 191 = 5 ∧ isMM 191 = false ∧ isStr 191 = false := by decide +kernel
theorem ri_191 {x : Int} : retI 191 x = true := rfl
theorem mf_192 : mOwn 192 = 1 ∧ mLvl 192 = 0 ∧ mMaxL 192 = 3 ∧ mArgs 192 = 0 ∧ isMM 192 = false ∧ isStr 192 = false := by decide +kernel
theorem ri_192 {x : Int} : retI 192 x = true := rfl
theorem mf_193 : mOwn 193 = 1 ∧ mLvl 193 = 0 ∧ mMaxL 193 = 2 ∧ mArgs 193 = 1 ∧ isMM 193 = false ∧ isStr 193 = false := by decide +kernel
theorem ri_193 {x : Int} (h : x = 0 ∨ x = 1) : retI 193 x = true := by
  show (x == 0 || x == 1) = true
  simpa using h
theorem mf_194 : mOwn 194 = 1 ∧ mLvl 194 = 0 ∧ mMaxL 194 = 1 ∧ mArgs 194 = 0 ∧ isMM 194 = false ∧ isStr 194 = false := by decide +kernel
theorem ri_194 {x : Int} (h : x = 0 ∨ x = 1) : retI 194 x = true := by
  show (x == 0 || x == 1) = true
  simpa using h
theorem mf_195 : mOwn 195 = 1 ∧ mLvl 195 = 0 ∧ mMaxL 195 = 4 ∧ mArgs 195 = 3 ∧ isMM 195 = false ∧ isStr 195 = false := by decide +kernel
theorem ri_195 {x : Int} : retI 195 x = true := rfl
theorem mf_196 : mOwn 196 = 1 ∧ mLvl 196 = 5 ∧ mMaxL 196 = 6 ∧ mArgs 196 = 2 ∧ isMM 196 = false ∧ isStr 196 = false := by decide +kernel
theorem ri_196 {x : Int} (h : x = 0 ∨ x = 1) : retI 196 x = true := by
  show (x == 0 || x == 1) = true
  simpa using h
theorem mf_197 : mOwn 197 = 2 ∧ mLvl 197 = 1 ∧ mMaxL 197 = 1 ∧ mArgs 197 = 0 ∧ isMM 197 = false ∧ isStr 197 = false := by decide +kernel
theorem rv_197 : mRet 197 = none := rfl
theorem mf_198 : mOwn 198 = 2 ∧ mLvl 198 = 0 ∧ mMaxL 198 = 5 ∧ mArgs 198 = 2 ∧ isMM 198 = false ∧ isStr 198 = false := by decide +kernel
theorem ri_198 {x : Int} (h : x = 0 ∨ x = 1) : retI 198 x = true := by
  show (x == 0 || x == 1) = true
  simpa using h
theorem mf_199 : mOwn 199 = 2 ∧ mLvl 199 = 1 ∧ mMaxL 199 = 6 ∧ mArgs 199 = 1 ∧ isMM 199 = false ∧ isStr 199 = false := by decide +kernel
theorem ri_199 {x : Int} : retI 199 x = true := rfl
theorem mf_200 : mOwn 200 = 2 ∧ mLvl 200 = 2 ∧ mMaxL 200 = 5 ∧ mArgs 200 = 2 ∧ isMM 200 = false ∧ isStr 200 = false := by decide +kernel
theorem ri_200 {x : Int} : retI 200 x = true := rfl
theorem mf_201 : mOwn 201 = 2 ∧ mLvl 201 = 1 ∧ mMaxL 201 = 4 ∧ mArgs 201 = 2 ∧ isMM 201 = false ∧ isStr 201 = false := by decide +kernel
theorem ri_201 {x : Int} : retI 201 x = true := rfl
theorem mf_202 : mOwn 202 = 2 ∧ mLvl 202 = 0 ∧ mMaxL 202 = 4 ∧ mArgs 202 = 2 ∧ isMM 202 = false ∧ isStr 202 = false := by decide +kernel
theorem ri_202 {x : Int} (h : x = 0 ∨ x = 1) : retI 202 x = true := by
  show (x == 0 || x == 1) = true
  simpa using h
theorem mf_203 : mOwn 203 = 2 ∧ mLvl 203 = 0 ∧ mMaxL 203 = 5 ∧ mArgs 203 = 2 ∧ isMM 203 = false ∧ isStr 203 = false := by decide +kernel
theorem ri_203 {x : Int} : retI 203 x = true := rfl
theorem mf_204 : mOwn 204 = 3 ∧ mLvl 204 = 1 ∧ mMaxL 204 = 2 ∧ mArgs 204 = 1 ∧ isMM 204 = false ∧ isStr 204 = false := by decide +kernel
theorem rv_204 : mRet 204 = none := rfl
theorem mf_205 : mOwn 205 = 3 ∧ mLvl 205 = 0 ∧ mMaxL 205 = 2 ∧ mArgs 205 = 1 ∧ isMM 205 = false ∧ isStr 205 = false := by decide +kernel
theorem ri_205 {x : Int} (h : x = 0 ∨ x = 1) : retI 205 x = true := by
  show (x == 0 || x == 1) = true
  simpa using h
theorem mf_206 : mOwn 206 = 3 ∧ mLvl 206 = 0 ∧ mMaxL 206 = 1 ∧ mArgs 206 = 0 ∧ isMM 206 = false ∧ isStr 206 = false := by decide +kernel
theorem ri_206 {x : Int} (h : x = 0 ∨ x = 1) : retI 206 x = true := by
  show (x == 0 || x == 1) = true
  simpa using h
theorem mf_207 : mOwn 207 = 3 ∧ mLvl 207 = 0 ∧ mMaxL 207 = 7 ∧ mArgs 207 = 6 ∧ isMM 207 = false ∧ isStr 207 = false := by decide +kernel
theorem ri_207 {x : Int} : retI 207 x = true := rfl
theorem mf_208 : mOwn 208 = 3 ∧ mLvl 208 = 0 ∧ mMaxL 208 = 2 ∧ mArgs 208 = 1 ∧ isMM 208 = false ∧ isStr 208 = false := by decide +kernel
theorem ri_208 {x : Int} (h : x = 0 ∨ x = 1) : retI 208 x = true := by
  show (x == 0 || x == 1) = true
  simpa using h
theorem mf_209 : mOwn 209 = 3 ∧ mLvl 209 = 0 ∧ mMaxL 209 = 2 ∧ mArgs 209 = 1 ∧ isMM 209 = false ∧ isStr 209 = false := by decide +kernel
theorem ri_209 {x : Int} (h : x = 0 ∨ x = 1) : retI 209 x = true := by
  show (x == 0 || x == 1) = true
  simpa using h
theorem mf_210 : mOwn 210 = 3 ∧ mLvl 210 = 0 ∧ mMaxL 210 = 4 ∧ mArgs 210 = 1 ∧ isMM 210 = false ∧ isStr 210 = false := by decide +kernel
theorem ri_210 {x : Int} : retI 210 x = true := rfl
theorem mf_211 : mOwn 211 = 3 ∧ mLvl 211 = 0 ∧ mMaxL 211 = 3 ∧ mArgs 211 = 0 ∧ isMM 211 = false ∧ isStr 211 = false := by decide +kernel
theorem ri_211 {x : Int} : retI 211 x = true := rfl
theorem mf_212 : mOwn 212 = 3 ∧ mLvl 212 = 1 ∧ mMaxL 212 = 5 ∧ mArgs 212 = 2 ∧ isMM 212 = false ∧ isStr 212 = false := by decide +kernel
theorem ri_212 {x : Int} : retI 212 x = true := rfl
theorem mf_213 : mOwn 213 = 3 ∧ mLvl 213 = 3 ∧ mMaxL 213 = 2 ∧ mArgs 213 = 1 ∧ isMM 213 = false ∧ isStr 213 = false := by decide +kernel
theorem rv_213 : mRet 213 = none := rfl
theorem mf_214 : mOwn 214 = 3 ∧ mLvl 214 = 5 ∧ mMaxL 214 = 4 ∧ mArgs 214 = 2 ∧ isMM 214 = false ∧ isStr 214 = false := by decide +kernel
theorem ri_214 {x : Int} : retI 214 x = true := rfl
theorem mf_215 : mOwn 215 = 3 ∧ mLvl 215 = 2 ∧ mMaxL 215 = 5 ∧ mArgs 215 = 1 ∧ isMM 215 = false ∧ isStr 215 = false := by decide +kernel
theorem ri_215 {x : Int} : retI 215 x = true := rfl
theorem mf_216 : mOwn 216 = 3 ∧ mLvl 216 = 4 ∧ mMaxL 216 = 5 ∧ mArgs 216 = 2 ∧ isMM 216 = false ∧ isStr 216 = false := by decide +kernel
theorem rv_216 : mRet 216 = none := rfl
theorem mf_217 : mOwn 217 = 3 ∧ mLvl 217 = 3 ∧ mMaxL 217 = 6 ∧ mArgs 217 = 3 ∧ isMM 217 = false ∧ isStr 217 = false := by decide +kernel
theorem rv_217 : mRet 217 = none := rfl
theorem mf_218 : mOwn 218 = 3 ∧ mLvl 218 = 1 ∧ mMaxL 218 = 3 ∧ mArgs 218 = 1 ∧ isMM 218 = false ∧ isStr 218 = false := by decide +kernel
theorem ri_218 {x : Int} : retI 218 x = true := rfl
theorem mf_219 : mOwn 219 = 3 ∧ mLvl 219 = 0 ∧ mMaxL 219 = 4 ∧ mArgs 219 = 3 ∧ isMM 219 = false ∧ isStr 219 = false := by decide +kernel
theorem ri_219 {x : Int} (h : x = 0 ∨ x = 1) : retI 219 x = true := by
  show (x == 0 || x == 1) = true
  simpa using h
theorem mf_220 : mOwn 220 = 3 ∧ mLvl 220 = 1 ∧ mMaxL 220 = 4 ∧ mArgs 220 = 3 ∧ isMM 220 = false ∧ isStr 220 = false := by decide +kernel
theorem rv_220 : mRet 220 = none := rfl
theorem mf_221 : mOwn 221 = 3 ∧ mLvl 221 = 2 ∧ mMaxL 221 = 7 ∧ mArgs 221 = 3 ∧ isMM 221 = false ∧ isStr 221 = false := by decide +kernel
theorem rv_221 : mRet 221 = none := rfl
theorem mf_222 : mOwn 222 = 3 ∧ mLvl 222 = 0 ∧ mMaxL 222 = 3 ∧ mArgs 222 = 2 ∧ isMM 222 = false ∧ isStr 222 = false := by decide +kernel
theorem rv_222 : mRet 222 = none := rfl
theorem mf_223 : mOwn 223 = 4 ∧ mLvl 223 = 1 ∧ mMaxL 223 = 8 ∧ mArgs 223 = 7 ∧ isMM 223 = false ∧ isStr 223 = false := by decide +kernel
theorem rv_223 : mRet 223 = none := rfl
theorem mf_224 : mOwn 224 = 4 ∧ mLvl 224 = 0 ∧ mMaxL 224 = 1 ∧ mArgs 224 = 0 ∧ isMM 224 = false ∧ isStr 224 = false := by decide +kernel
theorem ri_224 {x : Int} : retI 224 x = true := rfl
theorem mf_225 : mOwn 225 = 4 ∧ mLvl 225 = 0 ∧ mMaxL 225 = 3 ∧ mArgs 225 = 2 ∧ isMM 225 = false ∧ isStr 225 = false := by decide +kernel
theorem ri_225 {x : Int} (h : x = 0 ∨ x = 1) : retI 225 x = true := by
  show (x == 0 || x == 1) = true
  simpa using h
theorem mf_226 : mOwn 226 = 4 ∧ mLvl 226 = 0 ∧ mMaxL 226 = 1 ∧ mArgs 226 = 0 ∧ isMM 226 = false ∧ isStr 226 = false := by decide +kernel
theorem ri_226 {x : Int} : retI 226 x = true := rfl
theorem mf_227 : mOwn 227 = 4 ∧ mLvl 227 = 0 ∧ mMaxL 227 = 2 ∧ mArgs 227 = 1 ∧ isMM 227 = false ∧ isStr 227 = false := by decide +kernel
theorem rv_227 : mRet 227 = none := rfl
theorem mf_228 : mOwn 228 = 4 ∧ mLvl 228 = 1 ∧ mMaxL 228 = 4 ∧ mArgs 228 = 2 ∧ isMM 228 = false ∧ isStr 228 = false := by decide +kernel
theorem ri_228 {x : Int} (h : x = 0 ∨ x = 1) : retI 228 x = true := by
  show (x == 0 || x == 1) = true
  simpa using h
theorem mf_229 : mOwn 229 = 4 ∧ mLvl 229 = 0 ∧ mMaxL 229 = 4 ∧ mArgs 229 = 1 ∧ isMM 229 = false ∧ isStr 229 = false := by decide +kernel
theorem ri_229 {x : Int} : retI 229 x = true := rfl
theorem mf_230 : mOwn 230 = 5 ∧ mLvl 230 = 1 ∧ mMaxL 230 = 1 ∧ mArgs 230 = 0 ∧ isMM 230 = false ∧ isStr 230 = false := by decide +kernel
theorem rv_230 : mRet 230 = none := rfl
theorem mf_231 : mOwn 231 = 5 ∧ mLvl 231 = 0 ∧ mMaxL 231 = 2 ∧ mArgs 231 = 1 ∧ isMM 231 = false ∧ isStr 231 = false := by decide +kernel
theorem ri_231 {x : Int} (h : x = 0 ∨ x = 1) : retI 231 x = true := by
  show (x == 0 || x == 1) = true
  simpa using h
theorem mf_232 : mOwn 232 = 5 ∧ mLvl 232 = 0 ∧ mMaxL 232 = 1 ∧ mArgs 232 = 0 ∧ isMM 232 = false ∧ isStr 232 = false := by decide +kernel
theorem ri_232 {x : Int} (h : x = 0 ∨ x = 1) : retI 232 x = true := by
  show (x == 0 || x == 1) = true
  simpa using h
theorem mf_233 : mOwn 233 = 5 ∧ mLvl 233 = 0 ∧ mMaxL 233 = 2 ∧ mArgs 233 = 1 ∧ isMM 233 = false ∧ isStr 233 = false := by decide +kernel
theorem ra_233 : retA 233 = true := rfl
theorem mf_234 : mOwn 234 = 5 ∧ mLvl 234 = 0 ∧ mMaxL 234 = 2 ∧ mArgs 234 = 1 ∧ isMM 234 = false ∧ isStr 234 = false := by decide +kernel
theorem ri_234 {x : Int} : retI 234 x = true := rfl
theorem mf_235 : mOwn 235 = 5 ∧ mLvl 235 = 2 ∧ mMaxL 235 = 5 ∧ mArgs 235 = 2 ∧ isMM 235 = false ∧ isStr 235 = false := by decide +kernel
theorem rv_235 : mRet 235 = none := rfl
theorem mf_236 : mOwn 236 = 5 ∧ mLvl 236 = 2 ∧ mMaxL 236 = 8 ∧ mArgs 236 = 3 ∧ isMM 236 = false ∧ isStr 236 = false := by decide +kernel
theorem ri_236 {x : Int} : retI 236 x = true := rfl
theorem mf_237 : mOwn 237 = 5 ∧ mLvl 237 = 3 ∧ mMaxL 237 = 3 ∧ mArgs 237 = 2 ∧ isMM 237 = false ∧ isStr 237 = false := by decide +kernel
theorem ri_237 {x : Int} : retI 237 x = true := rfl
theorem mf_238 : mOwn 238 = 5 ∧ mLvl 238 = 3 ∧ mMaxL 238 = 5 ∧ mArgs 238 = 4 ∧ isMM 238 = false ∧ isStr 238 = false := by decide +kernel
theorem ri_238 {x : Int} : retI 238 x = true := rfl
theorem mf_239 : mOwn 239 = 5 ∧ mLvl 239 = 4 ∧ mMaxL 239 = 10 ∧ mArgs 239 = 5 ∧ isMM 239 = false ∧ isStr 239 = false := by decide +kernel
theorem ri_239 {x : Int} : retI 239 x = true := rfl
theorem mf_240 : mOwn 240 = 5 ∧ mLvl 240 = 4 ∧ mMaxL 240 = 6 ∧ mArgs 240 = 4 ∧ isMM 240 = false ∧ isStr 240 = false := by decide +kernel
theorem rv_240 : mRet 240 = none := rfl
theorem mf_241 : mOwn 241 = 5 ∧ mLvl 241 = 4 ∧ mMaxL 241 = 6 ∧ mArgs 241 = 4 ∧ isMM 241 = false ∧ isStr 241 = false := by decide +kernel
theorem rv_241 : mRet 241 = none := rfl
theorem mf_242 : mOwn 242 = 5 ∧ mLvl 242 = 3 ∧ mMaxL 242 = 10 ∧ mArgs 242 = 4 ∧ isMM 242 = false ∧ isStr 242 = false := by decide +kernel
theorem rv_242 : mRet 242 = none := rfl
theorem mf_243 : mOwn 243 = 5 ∧ mLvl 243 = 0 ∧ mMaxL 243 = 1 ∧ mArgs 243 = 0 ∧ isMM 243 = false ∧ isStr 243 = false := by decide +kernel
theorem rv_243 : mRet 243 = none := rfl
theorem mf_244 : mOwn 244 = 5 ∧ mLvl 244 = 0 ∧ mMaxL 244 = 2 ∧ mArgs 244 = 1 ∧ isMM 244 = false ∧ isStr 244 = false := by decide +kernel
theorem ri_244 {x : Int} : retI 244 x = true := rfl
theorem mf_245 : mOwn 245 = 5 ∧ mLvl 245 = 0 ∧ mMaxL 245 = 2 ∧ mArgs 245 = 1 ∧ isMM 245 = false ∧ isStr 245 = false := by decide +kernel
theorem rv_245 : mRet 245 = none := rfl
theorem mf_246 : mOwn 246 = 5 ∧ mLvl 246 = 1 ∧ mMaxL 246 = 6 ∧ mArgs 246 = 3 ∧ isMM 246 = false ∧ isStr 246 = false := by decide +kernel
theorem ri_246 {x : Int} : retI 246 x = true := rfl
theorem mf_247 : mOwn 247 = 5 ∧ mLvl 247 = 2 ∧ mMaxL 247 = 7 ∧ mArgs 247 = 3 ∧ isMM 247 = false ∧ isStr 247 = false := by decide +kernel
theorem ri_247 {x : Int} : retI 247 x = true := rfl
theorem mf_248 : mOwn 248 = 5 ∧ mLvl 248 = 3 ∧ mMaxL 248 = 9 ∧ mArgs 248 = 3 ∧ isMM 248 = false ∧ isStr 248 = false := by decide +kernel
theorem ri_248 {x : Int} : retI 248 x = true := rfl
theorem mf_249 : mOwn 249 = 6 ∧ mLvl 249 = 1 ∧ mMaxL 249 = 1 ∧ mArgs 249 = 0 ∧ isMM 249 = false ∧ isStr 249 = false := by decide +kernel
theorem rv_249 : mRet 249 = none := rfl
theorem mf_250 : mOwn 250 = 6 ∧ mLvl 250 = 0 ∧ mMaxL 250 = 2 ∧ mArgs 250 = 1 ∧ isMM 250 = false ∧ isStr 250 = false := by decide +kernel
theorem ri_250 {x : Int} (h : x = 0 ∨ x = 1) : retI 250 x = true := by
  show (x == 0 || x == 1) = true
  simpa using h
theorem mf_251 : mOwn 251 = 6 ∧ mLvl 251 = 0 ∧ mMaxL 251 = 2 ∧ mArgs 251 = 1 ∧ isMM 251 = false ∧ isStr 251 = false := by decide +kernel
theorem ri_251 {x : Int} (h : x = 0 ∨ x = 1) : retI 251 x = true := by
  show (x == 0 || x == 1) = true
  simpa using h
theorem mf_252 : mOwn 252 = 6 ∧ mLvl 252 = 0 ∧ mMaxL 252 = 2 ∧ mArgs 252 = 1 ∧ isMM 252 = false ∧ isStr 252 = false := by decide +kernel
theorem ri_252 {x : Int} (h : x = 0 ∨ x = 1) : retI 252 x = true := by
  show (x == 0 || x == 1) = true
  simpa using h
theorem mf_253 : mOwn 253 = 6 ∧ mLvl 253 = 0 ∧ mMaxL 253 = 2 ∧ mArgs 253 = 1 ∧ isMM 253 = false ∧ isStr 253 = false := by decide +kernel
theorem rv_253 : mRet 253 = none := rfl
theorem mf_254 : mOwn 254 = 6 ∧ mLvl 254 = 1 ∧ mMaxL 254 = 4 ∧ mArgs 254 = 3 ∧ isMM 254 = false ∧ isStr 254 = false := by decide +kernel
theorem rv_254 : mRet 254 = none := rfl
theorem mf_255 : mOwn 255 = 6 ∧ mLvl 255 = 0 ∧ mMaxL 255 = 4 ∧ mArgs 255 = 3 ∧ isMM 255 = false ∧ isStr 255 = false := by decide +kernel
theorem ri_255 {x : Int} (h : x = 0 ∨ x = 1) : retI 255 x = true := by
  show (x == 0 || x == 1) = true
  simpa using h
theorem mf_256 : mOwn 256 = 6 ∧ mLvl 256 = 0 ∧ mMaxL 256 = 3 ∧ mArgs 256 = 2 ∧ isMM 256 = false ∧ isStr 256 = false := by decide +kernel
theorem ri_256 {x : Int} : retI 256 x = true := rfl
theorem mf_257 : mOwn 257 = 6 ∧ mLvl 257 = 0 ∧ mMaxL 257 = 4 ∧ mArgs 257 = 3 ∧ isMM 257 = false ∧ isStr 257 = false := by decide +kernel
theorem rv_257 : mRet 257 = none := rfl
theorem mf_258 : mOwn 258 = 6 ∧ mLvl 258 = 1 ∧ mMaxL 258 = 6 ∧ mArgs 258 = 2 ∧ isMM 258 = false ∧ isStr 258 = false := by decide +kernel
theorem ri_258 {x : Int} : retI 258 x = true := rfl
theorem mf_259 : mOwn 259 = 7 ∧ mLvl 259 = 1 ∧ mMaxL 259 = 1 ∧ mArgs 259 = 0 ∧ isMM 259 = false ∧ isStr 259 = false := by decide +kernel
theorem rv_259 : mRet 259 = none := rfl
theorem mf_260 : mOwn 260 = 7 ∧ mLvl 260 = 1 ∧ mMaxL 260 = 1 ∧ mArgs 260 = 0 ∧ isMM 260 = false ∧ isStr 260 = false := by decide +kernel
theorem rv_260 : mRet 260 = none := rfl
theorem mf_261 : mOwn 261 = 7 ∧ mLvl 261 = 0 ∧ mMaxL 261 = 2 ∧ mArgs 261 = 1 ∧ isMM 261 = false ∧ isStr 261 = false := by decide +kernel
theorem rv_261 : mRet 261 = none := rfl
theorem mf_262 : mOwn 262 = 7 ∧ mLvl 262 = 0 ∧ mMaxL 262 = 2 ∧ mArgs 262 = 1 ∧ isMM 262 = false ∧ isStr 262 = false := by decide +kernel
theorem ri_262 {x : Int} (h : x = 0 ∨ x = 1) : retI 262 x = true := by
  show (x == 0 || x == 1) = true
  simpa using h
theorem mf_263 : mOwn 263 = 7 ∧ mLvl 263 = 1 ∧ mMaxL 263 = 3 ∧ mArgs 263 = 0 ∧ isMM 263 = false ∧ isStr 263 = false := by decide +kernel
theorem ri_263 {x : Int} : retI 263 x = true := rfl
theorem mf_264 : mOwn 264 = 7 ∧ mLvl 264 = 1 ∧ mMaxL 264 = 2 ∧ mArgs 264 = 0 ∧ isMM 264 = false ∧ isStr 264 = false := by decide +kernel
theorem ri_264 {x : Int} : retI 264 x = true := rfl
theorem mf_265 : mOwn 265 = 7 ∧ mLvl 265 = 2 ∧ mMaxL 265 = 7 ∧ mArgs 265 = 0 ∧ isMM 265 = false ∧ isStr 265 = false := by decide +kernel
theorem ri_265 {x : Int} : retI 265 x = true := rfl
theorem mf_266 : mOwn 266 = 7 ∧ mLvl 266 = 1 ∧ mMaxL 266 = 4 ∧ mArgs 266 = 2 ∧ isMM 266 = false ∧ isStr 266 = false := by decide +kernel
theorem ri_266 {x : Int} : retI 266 x = true := rfl
theorem mf_267 : mOwn 267 = 7 ∧ mLvl 267 = 0 ∧ mMaxL 267 = 4 ∧ mArgs 267 = 2 ∧ isMM 267 = false ∧ isStr 267 = false := by decide +kernel
theorem ri_267 {x : Int} (h : x = 0 ∨ x = 1) : retI 267 x = true := by
  show (x == 0 || x == 1) = true
  simpa using h
theorem mf_268 : mOwn 268 = 8 ∧ mLvl 268 = 1 ∧ mMaxL 268 = 1 ∧ mArgs 268 = 0 ∧ isMM 268 = false ∧ isStr 268 = false := by decide +kernel
theorem rv_268 : mRet 268 = none := rfl
theorem mf_269 : mOwn 269 = 8 ∧ mLvl 269 = 0 ∧ mMaxL 269 = 1 ∧ mArgs 269 = 0 ∧ isMM 269 = false ∧ isStr 269 = false := by decide +kernel
theorem ri_269 {x : Int} (h : x = 0 ∨ x = 1) : retI 269 x = true := by
  show (x == 0 || x == 1) = true
  simpa using h
theorem mf_270 : mOwn 270 = 8 ∧ mLvl 270 = 0 ∧ mMaxL 270 = 2 ∧ mArgs 270 = 1 ∧ isMM 270 = false ∧ isStr 270 = false := by decide +kernel
theorem ri_270 {x : Int} : retI 270 x = true := rfl
theorem mf_271 : mOwn 271 = 8 ∧ mLvl 271 = 0 ∧ mMaxL 271 = 1 ∧ mArgs 271 = 0 ∧ isMM 271 = false ∧ isStr 271 = false := by decide +kernel
theorem ri_271 {x : Int} (h : x = 0 ∨ x = 1) : retI 271 x = true := by
  show (x == 0 || x == 1) = true
  simpa using h
theorem mf_272 : mOwn 272 = 8 ∧ mLvl 272 = 0 ∧ mMaxL 272 = 1 ∧ mArgs 272 = 0 ∧ isMM 272 = false ∧ isStr 272 = false := by decide +kernel
theorem ri_272 {x : Int} : retI 272 x = true := rfl
theorem mf_273 : mOwn 273 = 8 ∧ mLvl 273 = 0 ∧ mMaxL 273 = 2 ∧ mArgs 273 = 1 ∧ isMM 273 = false ∧ isStr 273 = false := by decide +kernel
theorem ri_273 {x : Int} (h : x = 0 ∨ x = 1) : retI 273 x = true := by
  show (x == 0 || x == 1) = true
  simpa using h
theorem mf_274 : mOwn 274 = 8 ∧ mLvl 274 = 1 ∧ mMaxL 274 = 4 ∧ mArgs 274 = 1 ∧ isMM 274 = false ∧ isStr 274 = false := by decide +kernel
theorem ri_274 {x : Int} : retI 274 x = true := rfl
theorem mf_275 : mOwn 275 = 8 ∧ mLvl 275 = 2 ∧ mMaxL 275 = 4 ∧ mArgs 275 = 0 ∧ isMM 275 = false ∧ isStr 275 = false := by decide +kernel
theorem ri_275 {x : Int} : retI 275 x = true := rfl
theorem mf_276 : mOwn 276 = 8 ∧ mLvl 276 = 0 ∧ mMaxL 276 = 4 ∧ mArgs 276 = 1 ∧ isMM 276 = false ∧ isStr 276 = false := by decide +kernel
theorem ri_276 {x : Int} : retI 276 x = true := rfl
theorem mf_277 : mOwn 277 = 8 ∧ mLvl 277 = 1 ∧ mMaxL 277 = 5 ∧ mArgs 277 = 2 ∧ isMM 277 = false ∧ isStr 277 = false := by decide +kernel
theorem ri_277 {x : Int} (h : x = 0 ∨ x = 1) : retI 277 x = true := by
  show (x == 0 || x == 1) = true
  simpa using h
theorem mf_278 : mOwn 278 = 8 ∧ mLvl 278 = 0 ∧ mMaxL 278 = 5 ∧ mArgs 278 = 2 ∧ isMM 278 = false ∧ isStr 278 = false := by decide +kernel
theorem ri_278 {x : Int} : retI 278 x = true := rfl
theorem mf_279 : mOwn 279 = 9 ∧ mLvl 279 = 2 ∧ mMaxL 279 = 2 ∧ mArgs 279 = 1 ∧ isMM 279 = false ∧ isStr 279 = false := by decide +kernel
theorem rv_279 : mRet 279 = none := rfl
theorem mf_280 : mOwn 280 = 9 ∧ mLvl 280 = 9 ∧ mMaxL 280 = 2 ∧ mArgs 280 = 1 ∧ isMM 280 = false ∧ isStr 280 = false := by decide +kernel
theorem ri_280 {x : Int} : retI 280 x = true := rfl
theorem mf_281 : mOwn 281 = 9 ∧ mLvl 281 = 1 ∧ mMaxL 281 = 4 ∧ mArgs 281 = 3 ∧ isMM 281 = false ∧ isStr 281 = false := by decide +kernel
theorem ri_281 {x : Int} : retI 281 x = true := rfl
theorem mf_282 : mOwn 282 = 9 ∧ mLvl 282 = 6 ∧ mMaxL 282 = 1 ∧ mArgs 282 = 0 ∧ isMM 282 = false ∧ isStr 282 = false := by decide +kernel
theorem ri_282 {x : Int} (h : x = 0 ∨ x = 1) : retI 282 x = true := by
  show (x == 0 || x == 1) = true
  simpa using h
theorem mf_283 : mOwn 283 = 9 ∧ mLvl 283 = 2 ∧ mMaxL 283 = 3 ∧ mArgs 283 = 0 ∧ isMM 283 = false ∧ isStr 283 = false := by decide +kernel
theorem ri_283 {x : Int} (h : x = 0 ∨ x = 1) : retI 283 x = true := by
  show (x == 0 || x == 1) = true
  simpa using h
theorem mf_284 : mOwn 284 = 9 ∧ mLvl 284 = 2 ∧ mMaxL 284 = 2 ∧ mArgs 284 = 0 ∧ isMM 284 = false ∧ isStr 284 = false := by decide +kernel
theorem ri_284 {x : Int} (h : x = 0 ∨ x = 1) : retI 284 x = true := by
  show (x == 0 || x == 1) = true
  simpa using h
theorem mf_285 : mOwn 285 = 9 ∧ mLvl 285 = 8 ∧ mMaxL 285 = 3 ∧ mArgs 285 = 0 ∧ isMM 285 = false ∧ isStr 285 = false := by decide +kernel
theorem ri_285 {x : Int} (h : x = 0 ∨ x = 1) : retI 285 x = true := by
  show (x == 0 || x == 1) = true
  simpa using h
theorem mf_286 : mOwn 286 = 9 ∧ mLvl 286 = 7 ∧ mMaxL 286 = 2 ∧ mArgs 286 = 0 ∧ isMM 286 = false ∧ isStr 286 = false := by decide +kernel
theorem ri_286 {x : Int} (h : x = 0 ∨ x = 1) : retI 286 x = true := by
  show (x == 0 || x == 1) = true
  simpa using h
theorem mf_287 : mOwn 287 = 9 ∧ mLvl 287 = 6 ∧ mMaxL 287 = 6 ∧ mArgs 287 = 1 ∧ isMM 287 = false ∧ isStr 287 = false := by decide +kernel
theorem ri_287 {x : Int} (h : x = 0 ∨ x = 1) : retI 287 x = true := by
  show (x == 0 || x == 1) = true
  simpa using h
theorem mf_288 : mOwn 288 = 9 ∧ mLvl 288 = 1 ∧ mMaxL 288 = 5 ∧ mArgs 288 = 3 ∧ isMM 288 = false ∧ isStr 288 = false := by decide +kernel
theorem ri_288 {x : Int} : retI 288 x = true := rfl
theorem mf_289 : mOwn 289 = 9 ∧ mLvl 289 = 5 ∧ mMaxL 289 = 2 ∧ mArgs 289 = 1 ∧ isMM 289 = false ∧ isStr 289 = false := by decide +kernel
theorem ri_289 {x : Int} : retI 289 x = true := rfl
theorem mf_290 : mOwn 290 = 9 ∧ mLvl 290 = 0 ∧ mMaxL 290 = 1 ∧ mArgs 290 = 1 ∧ isMM 290 = false ∧ isStr 290 = false := by decide +kernel
theorem ri_290 {x : Int} : retI 290 x = true := rfl
theorem mf_291 : mOwn 291 = 9 ∧ mLvl 291 = 0 ∧ mMaxL 291 = 1 ∧ mArgs 291 = 0 ∧ isMM 291 = false ∧ isStr 291 = false := by decide +kernel
theorem ri_291 {x : Int} : retI 291 x = true := rfl
theorem mf_292 : mOwn 292 = 9 ∧ mLvl 292 = 5 ∧ mMaxL 292 = 3 ∧ mArgs 292 = 1 ∧ isMM 292 = false ∧ isStr 292 = false := by decide +kernel
theorem ri_292 {x : Int} (h : x = 0 ∨ x = 1) : retI 292 x = true := by
  show (x == 0 || x == 1) = true
  simpa using h
theorem mf_293 : mOwn 293 = 9 ∧ mLvl 293 = 1 ∧ mMaxL 293 = 3 ∧ mArgs 293 = 1 ∧ isMM 293 = false ∧ isStr 293 = false := by decide +kernel
theorem ri_293 {x : Int} : retI 293 x = true := rfl
theorem mf_294 : mOwn 294 = 9 ∧ mLvl 294 = 2 ∧ mMaxL 294 = 2 ∧ mArgs 294 = 0 ∧ isMM 294 = false ∧ isStr 294 = false := by decide +kernel
theorem rv_294 : mRet 294 = none := rfl
theorem mf_295 : mOwn 295 = 9 ∧ mLvl 295 = 1 ∧ mMaxL 295 = 5 ∧ mArgs 295 = 1 ∧ isMM 295 = false ∧ isStr 295 = false := by decide +kernel
theorem ri_295 {x : Int} (h : x = 0 ∨ x = 1) : retI 295 x = true := by
  show (x == 0 || x == 1) = true
  simpa using h
theorem mf_296 : mOwn 296 = 10 ∧ mLvl 296 = 1 ∧ mMaxL 296 = 3 ∧ mArgs 296 = 2 ∧ isMM 296 = false ∧ isStr 296 = false := by decide +kernel
theorem rv_296 : mRet 296 = none := rfl
theorem mf_297 : mOwn 297 = 10 ∧ mLvl 297 = 0 ∧ mMaxL 297 = 2 ∧ mArgs 297 = 1 ∧ isMM 297 = false ∧ isStr 297 = false := by decide +kernel
theorem ri_297 {x : Int} (h : x = 0 ∨ x = 1) : retI 297 x = true := by
  show (x == 0 || x == 1) = true
  simpa using h
theorem mf_298 : mOwn 298 = 10 ∧ mLvl 298 = 0 ∧ mMaxL 298 = 2 ∧ mArgs 298 = 1 ∧ isMM 298 = false ∧ isStr 298 = false := by decide +kernel
theorem ri_298 {x : Int} (h : x = 0 ∨ x = 1) : retI 298 x = true := by
  show (x == 0 || x == 1) = true
  simpa using h
theorem mf_299 : mOwn 299 = 10 ∧ mLvl 299 = 0 ∧ mMaxL 299 = 5 ∧ mArgs 299 = 3 ∧ isMM 299 = false ∧ isStr 299 = false := by decide +kernel
theorem ri_299 {x : Int} : retI 299 x = true := rfl
theorem mf_300 : mOwn 300 = 10 ∧ mLvl 300 = 0 ∧ mMaxL 300 = 3 ∧ mArgs 300 = 0 ∧ isMM 300 = false ∧ isStr 300 = false := by decide +kernel
theorem ri_300 {x : Int} : retI 300 x = true := rfl
theorem mf_301 : mOwn 301 = 10 ∧ mLvl 301 = 1 ∧ mMaxL 301 = 3 ∧ mArgs 301 = 1 ∧ isMM 301 = false ∧ isStr 301 = false := by decide +kernel
theorem ri_301 {x : Int} (h : x = 0 ∨ x = 1) : retI 301 x = true := by
  show (x == 0 || x == 1) = true
  simpa using h
theorem mf_302 : mOwn 302 = 10 ∧ mLvl 302 = 5 ∧ mMaxL 302 = 5 ∧ mArgs 302 = 2 ∧ isMM 302 = false ∧ isStr 302 = false := by decide +kernel
theorem ri_302 {x : Int} : retI 302 x = true := rfl
theorem mf_303 : mOwn 303 = 10 ∧ mLvl 303 = 5 ∧ mMaxL 303 = 5 ∧ mArgs 303 = 1 ∧ isMM 303 = false ∧ isStr 303 = false := by decide +kernel
theorem ri_303 {x : Int} : retI 303 x = true := rfl
theorem mf_304 : mOwn 304 = 10 ∧ mLvl 304 = 0 ∧ mMaxL 304 = 2 ∧ mArgs 304 = 1 ∧ isMM 304 = false ∧ isStr 304 = false := by decide +kernel
theorem ri_304 {x : Int} : retI 304 x = true := rfl
theorem mf_305 : mOwn 305 = 10 ∧ mLvl 305 = 1 ∧ mMaxL 305 = 6 ∧ mArgs 305 = 1 ∧ isMM 305 = false ∧ isStr 305 = false := by decide +kernel
theorem ri_305 {x : Int} : retI 305 x = true := rfl
theorem mf_306 : mOwn 306 = 10 ∧ mLvl 306 = 4 ∧ mMaxL 306 = 6 ∧ mArgs 306 = 2 ∧ isMM 306 = false ∧ isStr 306 = false := by decide +kernel
theorem ri_306 {x : Int} : retI 306 x = true := rfl
theorem mf_307 : mOwn 307 = 10 ∧ mLvl 307 = 1 ∧ mMaxL 307 = 3 ∧ mArgs 307 = 1 ∧ isMM 307 = false ∧ isStr 307 = false := by decide +kernel
theorem rv_307 : mRet 307 = none := rfl
theorem mf_308 : mOwn 308 = 10 ∧ mLvl 308 = 4 ∧ mMaxL 308 = 4 ∧ mArgs 308 = 1 ∧ isMM 308 = false ∧ isStr 308 = false := by decide +kernel
theorem rv_308 : mRet 308 = none := rfl
theorem mf_309 : mOwn 309 = 10 ∧ mLvl 309 = 1 ∧ mMaxL 309 = 10 ∧ mArgs 309 = 3 ∧ isMM 309 = false ∧ isStr 309 = false := by decide +kernel
theorem rv_309 : mRet 309 = none := rfl
theorem mf_310 : mOwn 310 = 10 ∧ mLvl 310 = 1 ∧ mMaxL 310 = 5 ∧ mArgs 310 = 2 ∧ isMM 310 = false ∧ isStr 310 = false := by decide +kernel
theorem ri_310 {x : Int} : retI 310 x = true := rfl
theorem mf_311 : mOwn 311 = 10 ∧ mLvl 311 = 0 ∧ mMaxL 311 = 2 ∧ mArgs 311 = 2 ∧ isMM 311 = false ∧ isStr 311 = false := by decide +kernel
theorem ri_311 {x : Int} : retI 311 x = true := rfl
theorem mf_312 : mOwn 312 = 10 ∧ mLvl 312 = 3 ∧ mMaxL 312 = 3 ∧ mArgs 312 = 1 ∧ isMM 312 = false ∧ isStr 312 = false := by decide +kernel
theorem rv_312 : mRet 312 = none := rfl
theorem mf_313 : mOwn 313 = 10 ∧ mLvl 313 = 4 ∧ mMaxL 313 = 4 ∧ mArgs 313 = 1 ∧ isMM 313 = false ∧ isStr 313 = false := by decide +kernel
theorem rv_313 : mRet 313 = none := rfl
theorem mf_314 : mOwn 314 = 10 ∧ mLvl 314 = 0 ∧ mMaxL 314 = 4 ∧ mArgs 314 = 1 ∧ isMM 314 = false ∧ isStr 314 = false := by decide +kernel
theorem ri_314 {x : Int} : retI 314 x = true := rfl
theorem mf_315 : mOwn 315 = 13 ∧ mLvl 315 = 0 ∧ mMaxL 315 = 1 ∧ mArgs 315 = 1 ∧ isMM 315 = false ∧ isStr 315 = false := by decide +kernel
theorem ri_315 {x : Int} : retI 315 x = true := rfl
theorem mf_316 : mOwn 316 = 14 ∧ mLvl 316 = 0 ∧ mMaxL 316 = 2 ∧ mArgs 316 = 1 ∧ isMM 316 = false ∧ isStr 316 = false := by decide +kernel
theorem ri_316 {x : Int} : retI 316 x = true := rfl
theorem mf_319 : mOwn 319 = 17 ∧ mLvl 319 = 0 ∧ mMaxL 319 = 4 ∧ mArgs 319 = 2 ∧ isMM 319 = false ∧ isStr 319 = false := by decide +kernel
theorem rv_319 : mRet 319 = none := rfl
theorem mf_320 : mOwn 320 = 17 ∧ mLvl 320 = 0 ∧ mMaxL 320 = 5 ∧ mArgs 320 = 2 ∧ isMM 320 = false ∧ isStr 320 = false := by decide +kernel
theorem rv_320 : mRet 320 = none := rfl
theorem mf_323 : mOwn 323 = 18 ∧ mLvl 323 = 11 ∧ mMaxL 323 = 4 ∧ mArgs 323 = 1 ∧ isMM 323 = false ∧ isStr 323 = false := by decide +kernel
theorem ri_323 {x : Int} (h : x = 0 ∨ x = 1) : retI 323 x = true := by
  show (x == 0 || x == 1) = true
  simpa using h
def layN : Nat := 131
def layKs : List Nat := [11, 100, 5, 103, 105, 100, 100, 100, 100, 100, 100, 100, 100, 100, 1, 100, 100, 100, 100, 100, 100, 100, 0, 100, 100, 100, 100, 3, 100, 100, 100, 100, 100, 100, 100, 100, 10, 104, 100, 100, 100, 100, 100, 100, 100, 8, 100, 105, 100, 100, 100, 100, 100, 100, 100, 100, 100, 2, 100, 100, 100, 100, 6, 105, 100, 100, 100, 100, 100, 7, 102, 9, 100, 100, 101, 7, 102, 12, 100, 100, 101, 100, 100, 100, 100, 100, 100, 100, 100, 100, 100, 100, 100, 100, 100, 100, 100, 100, 100, 100, 100, 100, 100, 100, 100, 100, 100, 100, 100, 100, 100, 100, 100, 100, 100, 100, 100, 100, 100, 100, 100, 100, 101, 101, 100, 100, 100, 100, 100, 100, 100]
def layLs : List Nat := [14, 90, 6, 80, 7, 80, 80, 80, 80, 80, 80, 80, 7, 20, 10, 8, 8, 8, 8, 60, 60, 60, 6, 100, 100, 100, 24, 10, 30, 30, 30, 30, 30, 30, 30, 30, 11, 15, 15, 5, 5, 5, 5, 243, 243, 4, 7, 9, 7, 7, 7, 7, 7, 7, 7, 7, 7, 4, 8, 8, 8, 256, 3, 3, 40, 40, 40, 3, 3, 1, 24, 10, 5, 5, 5, 1, 24, 69, 90, 96, 96, 96, 480, 80, 80, 80, 80, 80, 80, 80, 80, 80, 1600, 8, 8, 8, 100, 100, 100, 60, 60, 60, 30, 30, 30, 30, 30, 30, 30, 30, 8, 5, 15, 7, 63, 8, 8, 8, 20, 3, 3, 120, 1536, 72, 7680, 1536, 1536, 5, 5, 256, 8]
def layRs : List (Nat × Nat × Nat) := [(0, 0, 1), (0, 1, 2), (0, 2, 14), (0, 3, 22), (0, 4, 27), (0, 5, 36), (0, 6, 45), (0, 7, 57), (0, 8, 62), (0, 9, 69), (2, 0, 3), (2, 1, 4), (2, 2, 12), (2, 3, 13), (4, 0, 5), (4, 1, 6), (4, 2, 7), (4, 3, 8), (4, 4, 9), (4, 5, 10), (4, 6, 11), (14, 0, 2), (14, 1, 15), (14, 2, 16), (14, 3, 17), (14, 4, 18), (14, 5, 19), (14, 6, 20), (14, 7, 21), (22, 0, 23), (22, 1, 24), (22, 2, 25), (22, 3, 26), (27, 0, 14), (27, 1, 28), (27, 2, 29), (27, 3, 30), (27, 4, 31), (27, 5, 32), (27, 6, 33), (27, 7, 34), (27, 8, 35), (36, 0, 2), (36, 1, 14), (36, 2, 37), (36, 3, 38), (36, 4, 39), (36, 5, 40), (36, 6, 41), (36, 7, 42), (36, 9, 43), (36, 10, 44), (45, 0, 46), (45, 1, 47), (47, 0, 48), (47, 1, 49), (47, 2, 50), (47, 3, 51), (47, 4, 52), (47, 5, 53), (47, 6, 54), (47, 7, 55), (47, 8, 56), (57, 0, 58), (57, 1, 59), (57, 2, 60), (57, 3, 61), (62, 0, 63), (62, 1, 67), (62, 2, 68), (63, 0, 64), (63, 1, 65), (63, 2, 66), (69, 0, 70), (71, 0, 1), (71, 1, 72), (71, 2, 73), (71, 3, 74), (71, 4, 75), (75, 0, 76), (77, 1, 78), (77, 3, 79), (77, 4, 80), (77, 5, 81), (77, 6, 82), (77, 8, 83), (77, 9, 84), (77, 10, 85), (77, 11, 86), (77, 12, 87), (77, 13, 88), (77, 14, 89), (77, 15, 90), (77, 16, 91), (77, 17, 92), (77, 19, 93), (77, 20, 94), (77, 21, 95), (77, 24, 96), (77, 25, 97), (77, 26, 98), (77, 28, 99), (77, 29, 100), (77, 30, 101), (77, 32, 102), (77, 33, 103), (77, 34, 104), (77, 35, 105), (77, 36, 106), (77, 37, 107), (77, 38, 108), (77, 39, 109), (77, 40, 110), (77, 41, 111), (77, 42, 112), (77, 44, 113), (77, 46, 114), (77, 47, 115), (77, 48, 116), (77, 49, 117), (77, 50, 118), (77, 52, 119), (77, 53, 120), (77, 54, 121), (77, 59, 122), (77, 60, 123), (77, 61, 124), (77, 62, 125), (77, 63, 126), (77, 64, 127), (77, 65, 128), (77, 66, 129), (77, 67, 130)]
/-- the cells of the two constructors stand where they were made -/
def Lay (R : RH) (K : KH) : Prop := (∀ a, a < layN → K.1 a = layKs.getD a 0 ∧ K.2.1 a = layLs.getD a 0) ∧ (∀ e ∈ layRs, R e.1 e.2.1 = some e.2.2) ∧ layN ≤ K.2.2.1
theorem lk_0 {R : RH} {K : KH} (h : Lay R K) : K.1 0 = 11 := (h.1 0 (by decide)).1
theorem lk_1 {R : RH} {K : KH} (h : Lay R K) : K.1 1 = 100 := (h.1 1 (by decide)).1
theorem ll_1 {R : RH} {K : KH} (h : Lay R K) : K.2.1 1 = 90 := (h.1 1 (by decide)).2
theorem lk_2 {R : RH} {K : KH} (h : Lay R K) : K.1 2 = 5 := (h.1 2 (by decide)).1
theorem lk_3 {R : RH} {K : KH} (h : Lay R K) : K.1 3 = 103 := (h.1 3 (by decide)).1
theorem ll_3 {R : RH} {K : KH} (h : Lay R K) : K.2.1 3 = 80 := (h.1 3 (by decide)).2
theorem lk_4 {R : RH} {K : KH} (h : Lay R K) : K.1 4 = 105 := (h.1 4 (by decide)).1
theorem ll_4 {R : RH} {K : KH} (h : Lay R K) : K.2.1 4 = 7 := (h.1 4 (by decide)).2
theorem lk_5 {R : RH} {K : KH} (h : Lay R K) : K.1 5 = 100 := (h.1 5 (by decide)).1
theorem ll_5 {R : RH} {K : KH} (h : Lay R K) : K.2.1 5 = 80 := (h.1 5 (by decide)).2
theorem lk_6 {R : RH} {K : KH} (h : Lay R K) : K.1 6 = 100 := (h.1 6 (by decide)).1
theorem ll_6 {R : RH} {K : KH} (h : Lay R K) : K.2.1 6 = 80 := (h.1 6 (by decide)).2
theorem lk_7 {R : RH} {K : KH} (h : Lay R K) : K.1 7 = 100 := (h.1 7 (by decide)).1
theorem ll_7 {R : RH} {K : KH} (h : Lay R K) : K.2.1 7 = 80 := (h.1 7 (by decide)).2
theorem lk_8 {R : RH} {K : KH} (h : Lay R K) : K.1 8 = 100 := (h.1 8 (by decide)).1
theorem ll_8 {R : RH} {K : KH} (h : Lay R K) : K.2.1 8 = 80 := (h.1 8 (by decide)).2
theorem lk_9 {R : RH} {K : KH} (h : Lay R K) : K.1 9 = 100 := (h.1 9 (by decide)).1
theorem ll_9 {R : RH} {K : KH} (h : Lay R K) : K.2.1 9 = 80 := (h.1 9 (by decide)).2
theorem lk_10 {R : RH} {K : KH} (h : Lay R K) : K.1 10 = 100 := (h.1 10 (by decide)).1
theorem ll_10 {R : RH} {K : KH} (h : Lay R K) : K.2.1 10 = 80 := (h.1 10 (by decide)).2
theorem lk_11 {R : RH} {K : KH} (h : Lay R K) : K.1 11 = 100 := (h.1 11 (by decide)).1
theorem ll_11 {R : RH} {K : KH} (h : Lay R K) : K.2.1 11 = 80 := (h.1 11 (by decide)).2
theorem lk_12 {R : RH} {K : KH} (h : Lay R K) : K.1 12 = 100 := (h.1 12 (by decide)).1
theorem ll_12 {R : RH} {K : KH} (h : Lay R K) : K.2.1 12 = 7 := (h.1 12 (by decide)).2
theorem lk_13 {R : RH} {K : KH} (h : Lay R K) : K.1 13 = 100 := (h.1 13 (by decide)).1
theorem ll_13 {R : RH} {K : KH} (h : Lay R K) : K.2.1 13 = 20 := (h.1 13 (by decide)).2
theorem lk_14 {R : RH} {K : KH} (h : Lay R K) : K.1 14 = 1 := (h.1 14 (by decide)).1
theorem lk_15 {R : RH} {K : KH} (h : Lay R K) : K.1 15 = 100 := (h.1 15 (by decide)).1
theorem ll_15 {R : RH} {K : KH} (h : Lay R K) : K.2.1 15 = 8 := (h.1 15 (by decide)).2
theorem lk_16 {R : RH} {K : KH} (h : Lay R K) : K.1 16 = 100 := (h.1 16 (by decide)).1
theorem ll_16 {R : RH} {K : KH} (h : Lay R K) : K.2.1 16 = 8 := (h.1 16 (by decide)).2
theorem lk_17 {R : RH} {K : KH} (h : Lay R K) : K.1 17 = 100 := (h.1 17 (by decide)).1
theorem ll_17 {R : RH} {K : KH} (h : Lay R K) : K.2.1 17 = 8 := (h.1 17 (by decide)).2
theorem lk_18 {R : RH} {K : KH} (h : Lay R K) : K.1 18 = 100 := (h.1 18 (by decide)).1
theorem ll_18 {R : RH} {K : KH} (h : Lay R K) : K.2.1 18 = 8 := (h.1 18 (by decide)).2
theorem lk_19 {R : RH} {K : KH} (h : Lay R K) : K.1 19 = 100 := (h.1 19 (by decide)).1
theorem ll_19 {R : RH} {K : KH} (h : Lay R K) : K.2.1 19 = 60 := (h.1 19 (by decide)).2
theorem lk_20 {R : RH} {K : KH} (h : Lay R K) : K.1 20 = 100 := (h.1 20 (by decide)).1
theorem ll_20 {R : RH} {K : KH} (h : Lay R K) : K.2.1 20 = 60 := (h.1 20 (by decide)).2
theorem lk_21 {R : RH} {K : KH} (h : Lay R K) : K.1 21 = 100 := (h.1 21 (by decide)).1
theorem ll_21 {R : RH} {K : KH} (h : Lay R K) : K.2.1 21 = 60 := (h.1 21 (by decide)).2
theorem lk_22 {R : RH} {K : KH} (h : Lay R K) : K.1 22 = 0 := (h.1 22 (by decide)).1
theorem lk_23 {R : RH} {K : KH} (h : Lay R K) : K.1 23 = 100 := (h.1 23 (by decide)).1
theorem ll_23 {R : RH} {K : KH} (h : Lay R K) : K.2.1 23 = 100 := (h.1 23 (by decide)).2
theorem lk_24 {R : RH} {K : KH} (h : Lay R K) : K.1 24 = 100 := (h.1 24 (by decide)).1
theorem ll_24 {R : RH} {K : KH} (h : Lay R K) : K.2.1 24 = 100 := (h.1 24 (by decide)).2
theorem lk_25 {R : RH} {K : KH} (h : Lay R K) : K.1 25 = 100 := (h.1 25 (by decide)).1
theorem ll_25 {R : RH} {K : KH} (h : Lay R K) : K.2.1 25 = 100 := (h.1 25 (by decide)).2
theorem lk_26 {R : RH} {K : KH} (h : Lay R K) : K.1 26 = 100 := (h.1 26 (by decide)).1
theorem ll_26 {R : RH} {K : KH} (h : Lay R K) : K.2.1 26 = 24 := (h.1 26 (by decide)).2
theorem lk_27 {R : RH} {K : KH} (h : Lay R K) : K.1 27 = 3 := (h.1 27 (by decide)).1
theorem lk_28 {R : RH} {K : KH} (h : Lay R K) : K.1 28 = 100 := (h.1 28 (by decide)).1
theorem ll_28 {R : RH} {K : KH} (h : Lay R K) : K.2.1 28 = 30 := (h.1 28 (by decide)).2
theorem lk_29 {R : RH} {K : KH} (h : Lay R K) : K.1 29 = 100 := (h.1 29 (by decide)).1
theorem ll_29 {R : RH} {K : KH} (h : Lay R K) : K.2.1 29 = 30 := (h.1 29 (by decide)).2
theorem lk_30 {R : RH} {K : KH} (h : Lay R K) : K.1 30 = 100 := (h.1 30 (by decide)).1
theorem ll_30 {R : RH} {K : KH} (h : Lay R K) : K.2.1 30 = 30 := (h.1 30 (by decide)).2
theorem lk_31 {R : RH} {K : KH} (h : Lay R K) : K.1 31 = 100 := (h.1 31 (by decide)).1
theorem ll_31 {R : RH} {K : KH} (h : Lay R K) : K.2.1 31 = 30 := (h.1 31 (by decide)).2
theorem lk_32 {R : RH} {K : KH} (h : Lay R K) : K.1 32 = 100 := (h.1 32 (by decide)).1
theorem ll_32 {R : RH} {K : KH} (h : Lay R K) : K.2.1 32 = 30 := (h.1 32 (by decide)).2
theorem lk_33 {R : RH} {K : KH} (h : Lay R K) : K.1 33 = 100 := (h.1 33 (by decide)).1
theorem ll_33 {R : RH} {K : KH} (h : Lay R K) : K.2.1 33 = 30 := (h.1 33 (by decide)).2
theorem lk_34 {R : RH} {K : KH} (h : Lay R K) : K.1 34 = 100 := (h.1 34 (by decide)).1
theorem ll_34 {R : RH} {K : KH} (h : Lay R K) : K.2.1 34 = 30 := (h.1 34 (by decide)).2
theorem lk_35 {R : RH} {K : KH} (h : Lay R K) : K.1 35 = 100 := (h.1 35 (by decide)).1
theorem ll_35 {R : RH} {K : KH} (h : Lay R K) : K.2.1 35 = 30 := (h.1 35 (by decide)).2
theorem lk_36 {R : RH} {K : KH} (h : Lay R K) : K.1 36 = 10 := (h.1 36 (by decide)).1
theorem lk_37 {R : RH} {K : KH} (h : Lay R K) : K.1 37 = 104 := (h.1 37 (by decide)).1
theorem ll_37 {R : RH} {K : KH} (h : Lay R K) : K.2.1 37 = 15 := (h.1 37 (by decide)).2
theorem lk_38 {R : RH} {K : KH} (h : Lay R K) : K.1 38 = 100 := (h.1 38 (by decide)).1
theorem ll_38 {R : RH} {K : KH} (h : Lay R K) : K.2.1 38 = 15 := (h.1 38 (by decide)).2
theorem lk_39 {R : RH} {K : KH} (h : Lay R K) : K.1 39 = 100 := (h.1 39 (by decide)).1
theorem ll_39 {R : RH} {K : KH} (h : Lay R K) : K.2.1 39 = 5 := (h.1 39 (by decide)).2
theorem lk_40 {R : RH} {K : KH} (h : Lay R K) : K.1 40 = 100 := (h.1 40 (by decide)).1
theorem ll_40 {R : RH} {K : KH} (h : Lay R K) : K.2.1 40 = 5 := (h.1 40 (by decide)).2
theorem lk_41 {R : RH} {K : KH} (h : Lay R K) : K.1 41 = 100 := (h.1 41 (by decide)).1
theorem ll_41 {R : RH} {K : KH} (h : Lay R K) : K.2.1 41 = 5 := (h.1 41 (by decide)).2
theorem lk_42 {R : RH} {K : KH} (h : Lay R K) : K.1 42 = 100 := (h.1 42 (by decide)).1
theorem ll_42 {R : RH} {K : KH} (h : Lay R K) : K.2.1 42 = 5 := (h.1 42 (by decide)).2
theorem lk_43 {R : RH} {K : KH} (h : Lay R K) : K.1 43 = 100 := (h.1 43 (by decide)).1
theorem ll_43 {R : RH} {K : KH} (h : Lay R K) : K.2.1 43 = 243 := (h.1 43 (by decide)).2
theorem lk_44 {R : RH} {K : KH} (h : Lay R K) : K.1 44 = 100 := (h.1 44 (by decide)).1
theorem ll_44 {R : RH} {K : KH} (h : Lay R K) : K.2.1 44 = 243 := (h.1 44 (by decide)).2
theorem lk_45 {R : RH} {K : KH} (h : Lay R K) : K.1 45 = 8 := (h.1 45 (by decide)).1
theorem lk_46 {R : RH} {K : KH} (h : Lay R K) : K.1 46 = 100 := (h.1 46 (by decide)).1
theorem ll_46 {R : RH} {K : KH} (h : Lay R K) : K.2.1 46 = 7 := (h.1 46 (by decide)).2
theorem lk_47 {R : RH} {K : KH} (h : Lay R K) : K.1 47 = 105 := (h.1 47 (by decide)).1
theorem ll_47 {R : RH} {K : KH} (h : Lay R K) : K.2.1 47 = 9 := (h.1 47 (by decide)).2
theorem lk_48 {R : RH} {K : KH} (h : Lay R K) : K.1 48 = 100 := (h.1 48 (by decide)).1
theorem ll_48 {R : RH} {K : KH} (h : Lay R K) : K.2.1 48 = 7 := (h.1 48 (by decide)).2
theorem lk_49 {R : RH} {K : KH} (h : Lay R K) : K.1 49 = 100 := (h.1 49 (by decide)).1
theorem ll_49 {R : RH} {K : KH} (h : Lay R K) : K.2.1 49 = 7 := (h.1 49 (by decide)).2
theorem lk_50 {R : RH} {K : KH} (h : Lay R K) : K.1 50 = 100 := (h.1 50 (by decide)).1
theorem ll_50 {R : RH} {K : KH} (h : Lay R K) : K.2.1 50 = 7 := (h.1 50 (by decide)).2
theorem lk_51 {R : RH} {K : KH} (h : Lay R K) : K.1 51 = 100 := (h.1 51 (by decide)).1
theorem ll_51 {R : RH} {K : KH} (h : Lay R K) : K.2.1 51 = 7 := (h.1 51 (by decide)).2
theorem lk_52 {R : RH} {K : KH} (h : Lay R K) : K.1 52 = 100 := (h.1 52 (by decide)).1
theorem ll_52 {R : RH} {K : KH} (h : Lay R K) : K.2.1 52 = 7 := (h.1 52 (by decide)).2
theorem lk_53 {R : RH} {K : KH} (h : Lay R K) : K.1 53 = 100 := (h.1 53 (by decide)).1
theorem ll_53 {R : RH} {K : KH} (h : Lay R K) : K.2.1 53 = 7 := (h.1 53 (by decide)).2
theorem lk_54 {R : RH} {K : KH} (h : Lay R K) : K.1 54 = 100 := (h.1 54 (by decide)).1
theorem ll_54 {R : RH} {K : KH} (h : Lay R K) : K.2.1 54 = 7 := (h.1 54 (by decide)).2
theorem lk_55 {R : RH} {K : KH} (h : Lay R K) : K.1 55 = 100 := (h.1 55 (by decide)).1
theorem ll_55 {R : RH} {K : KH} (h : Lay R K) : K.2.1 55 = 7 := (h.1 55 (by decide)).2
theorem lk_56 {R : RH} {K : KH} (h : Lay R K) : K.1 56 = 100 := (h.1 56 (by decide)).1
theorem ll_56 {R : RH} {K : KH} (h : Lay R K) : K.2.1 56 = 7 := (h.1 56 (by decide)).2
theorem lk_57 {R : RH} {K : KH} (h : Lay R K) : K.1 57 = 2 := (h.1 57 (by decide)).1
theorem lk_58 {R : RH} {K : KH} (h : Lay R K) : K.1 58 = 100 := (h.1 58 (by decide)).1
theorem ll_58 {R : RH} {K : KH} (h : Lay R K) : K.2.1 58 = 8 := (h.1 58 (by decide)).2
theorem lk_59 {R : RH} {K : KH} (h : Lay R K) : K.1 59 = 100 := (h.1 59 (by decide)).1
theorem ll_59 {R : RH} {K : KH} (h : Lay R K) : K.2.1 59 = 8 := (h.1 59 (by decide)).2
theorem lk_60 {R : RH} {K : KH} (h : Lay R K) : K.1 60 = 100 := (h.1 60 (by decide)).1
theorem ll_60 {R : RH} {K : KH} (h : Lay R K) : K.2.1 60 = 8 := (h.1 60 (by decide)).2
theorem lk_61 {R : RH} {K : KH} (h : Lay R K) : K.1 61 = 100 := (h.1 61 (by decide)).1
theorem ll_61 {R : RH} {K : KH} (h : Lay R K) : K.2.1 61 = 256 := (h.1 61 (by decide)).2
theorem lk_62 {R : RH} {K : KH} (h : Lay R K) : K.1 62 = 6 := (h.1 62 (by decide)).1
theorem lk_63 {R : RH} {K : KH} (h : Lay R K) : K.1 63 = 105 := (h.1 63 (by decide)).1
theorem ll_63 {R : RH} {K : KH} (h : Lay R K) : K.2.1 63 = 3 := (h.1 63 (by decide)).2
theorem lk_64 {R : RH} {K : KH} (h : Lay R K) : K.1 64 = 100 := (h.1 64 (by decide)).1
theorem ll_64 {R : RH} {K : KH} (h : Lay R K) : K.2.1 64 = 40 := (h.1 64 (by decide)).2
theorem lk_65 {R : RH} {K : KH} (h : Lay R K) : K.1 65 = 100 := (h.1 65 (by decide)).1
theorem ll_65 {R : RH} {K : KH} (h : Lay R K) : K.2.1 65 = 40 := (h.1 65 (by decide)).2
theorem lk_66 {R : RH} {K : KH} (h : Lay R K) : K.1 66 = 100 := (h.1 66 (by decide)).1
theorem ll_66 {R : RH} {K : KH} (h : Lay R K) : K.2.1 66 = 40 := (h.1 66 (by decide)).2
theorem lk_67 {R : RH} {K : KH} (h : Lay R K) : K.1 67 = 100 := (h.1 67 (by decide)).1
theorem ll_67 {R : RH} {K : KH} (h : Lay R K) : K.2.1 67 = 3 := (h.1 67 (by decide)).2
theorem lk_68 {R : RH} {K : KH} (h : Lay R K) : K.1 68 = 100 := (h.1 68 (by decide)).1
theorem ll_68 {R : RH} {K : KH} (h : Lay R K) : K.2.1 68 = 3 := (h.1 68 (by decide)).2
theorem lk_69 {R : RH} {K : KH} (h : Lay R K) : K.1 69 = 7 := (h.1 69 (by decide)).1
theorem lk_70 {R : RH} {K : KH} (h : Lay R K) : K.1 70 = 102 := (h.1 70 (by decide)).1
theorem ll_70 {R : RH} {K : KH} (h : Lay R K) : K.2.1 70 = 24 := (h.1 70 (by decide)).2
theorem lk_71 {R : RH} {K : KH} (h : Lay R K) : K.1 71 = 9 := (h.1 71 (by decide)).1
theorem lk_72 {R : RH} {K : KH} (h : Lay R K) : K.1 72 = 100 := (h.1 72 (by decide)).1
theorem ll_72 {R : RH} {K : KH} (h : Lay R K) : K.2.1 72 = 5 := (h.1 72 (by decide)).2
theorem lk_73 {R : RH} {K : KH} (h : Lay R K) : K.1 73 = 100 := (h.1 73 (by decide)).1
theorem ll_73 {R : RH} {K : KH} (h : Lay R K) : K.2.1 73 = 5 := (h.1 73 (by decide)).2
theorem lk_74 {R : RH} {K : KH} (h : Lay R K) : K.1 74 = 101 := (h.1 74 (by decide)).1
theorem ll_74 {R : RH} {K : KH} (h : Lay R K) : K.2.1 74 = 5 := (h.1 74 (by decide)).2
theorem lk_75 {R : RH} {K : KH} (h : Lay R K) : K.1 75 = 7 := (h.1 75 (by decide)).1
theorem lk_76 {R : RH} {K : KH} (h : Lay R K) : K.1 76 = 102 := (h.1 76 (by decide)).1
theorem ll_76 {R : RH} {K : KH} (h : Lay R K) : K.2.1 76 = 24 := (h.1 76 (by decide)).2
theorem lk_77 {R : RH} {K : KH} (h : Lay R K) : K.1 77 = 12 := (h.1 77 (by decide)).1
theorem lk_78 {R : RH} {K : KH} (h : Lay R K) : K.1 78 = 100 := (h.1 78 (by decide)).1
theorem ll_78 {R : RH} {K : KH} (h : Lay R K) : K.2.1 78 = 90 := (h.1 78 (by decide)).2
theorem lk_79 {R : RH} {K : KH} (h : Lay R K) : K.1 79 = 100 := (h.1 79 (by decide)).1
theorem ll_79 {R : RH} {K : KH} (h : Lay R K) : K.2.1 79 = 96 := (h.1 79 (by decide)).2
theorem lk_80 {R : RH} {K : KH} (h : Lay R K) : K.1 80 = 101 := (h.1 80 (by decide)).1
theorem ll_80 {R : RH} {K : KH} (h : Lay R K) : K.2.1 80 = 96 := (h.1 80 (by decide)).2
theorem lk_81 {R : RH} {K : KH} (h : Lay R K) : K.1 81 = 100 := (h.1 81 (by decide)).1
theorem ll_81 {R : RH} {K : KH} (h : Lay R K) : K.2.1 81 = 96 := (h.1 81 (by decide)).2
theorem lk_82 {R : RH} {K : KH} (h : Lay R K) : K.1 82 = 100 := (h.1 82 (by decide)).1
theorem ll_82 {R : RH} {K : KH} (h : Lay R K) : K.2.1 82 = 480 := (h.1 82 (by decide)).2
theorem lk_83 {R : RH} {K : KH} (h : Lay R K) : K.1 83 = 100 := (h.1 83 (by decide)).1
theorem ll_83 {R : RH} {K : KH} (h : Lay R K) : K.2.1 83 = 80 := (h.1 83 (by decide)).2
theorem lk_84 {R : RH} {K : KH} (h : Lay R K) : K.1 84 = 100 := (h.1 84 (by decide)).1
theorem ll_84 {R : RH} {K : KH} (h : Lay R K) : K.2.1 84 = 80 := (h.1 84 (by decide)).2
theorem lk_85 {R : RH} {K : KH} (h : Lay R K) : K.1 85 = 100 := (h.1 85 (by decide)).1
theorem ll_85 {R : RH} {K : KH} (h : Lay R K) : K.2.1 85 = 80 := (h.1 85 (by decide)).2
theorem lk_86 {R : RH} {K : KH} (h : Lay R K) : K.1 86 = 100 := (h.1 86 (by decide)).1
theorem ll_86 {R : RH} {K : KH} (h : Lay R K) : K.2.1 86 = 80 := (h.1 86 (by decide)).2
theorem lk_87 {R : RH} {K : KH} (h : Lay R K) : K.1 87 = 100 := (h.1 87 (by decide)).1
theorem ll_87 {R : RH} {K : KH} (h : Lay R K) : K.2.1 87 = 80 := (h.1 87 (by decide)).2
theorem lk_88 {R : RH} {K : KH} (h : Lay R K) : K.1 88 = 100 := (h.1 88 (by decide)).1
theorem ll_88 {R : RH} {K : KH} (h : Lay R K) : K.2.1 88 = 80 := (h.1 88 (by decide)).2
theorem lk_89 {R : RH} {K : KH} (h : Lay R K) : K.1 89 = 100 := (h.1 89 (by decide)).1
theorem ll_89 {R : RH} {K : KH} (h : Lay R K) : K.2.1 89 = 80 := (h.1 89 (by decide)).2
theorem lk_90 {R : RH} {K : KH} (h : Lay R K) : K.1 90 = 100 := (h.1 90 (by decide)).1
theorem ll_90 {R : RH} {K : KH} (h : Lay R K) : K.2.1 90 = 80 := (h.1 90 (by decide)).2
theorem lk_91 {R : RH} {K : KH} (h : Lay R K) : K.1 91 = 100 := (h.1 91 (by decide)).1
theorem ll_91 {R : RH} {K : KH} (h : Lay R K) : K.2.1 91 = 80 := (h.1 91 (by decide)).2
theorem lk_92 {R : RH} {K : KH} (h : Lay R K) : K.1 92 = 100 := (h.1 92 (by decide)).1
theorem ll_92 {R : RH} {K : KH} (h : Lay R K) : K.2.1 92 = 1600 := (h.1 92 (by decide)).2
theorem lk_93 {R : RH} {K : KH} (h : Lay R K) : K.1 93 = 100 := (h.1 93 (by decide)).1
theorem ll_93 {R : RH} {K : KH} (h : Lay R K) : K.2.1 93 = 8 := (h.1 93 (by decide)).2
theorem lk_94 {R : RH} {K : KH} (h : Lay R K) : K.1 94 = 100 := (h.1 94 (by decide)).1
theorem ll_94 {R : RH} {K : KH} (h : Lay R K) : K.2.1 94 = 8 := (h.1 94 (by decide)).2
theorem lk_95 {R : RH} {K : KH} (h : Lay R K) : K.1 95 = 100 := (h.1 95 (by decide)).1
theorem ll_95 {R : RH} {K : KH} (h : Lay R K) : K.2.1 95 = 8 := (h.1 95 (by decide)).2
theorem lk_96 {R : RH} {K : KH} (h : Lay R K) : K.1 96 = 100 := (h.1 96 (by decide)).1
theorem ll_96 {R : RH} {K : KH} (h : Lay R K) : K.2.1 96 = 100 := (h.1 96 (by decide)).2
theorem lk_97 {R : RH} {K : KH} (h : Lay R K) : K.1 97 = 100 := (h.1 97 (by decide)).1
theorem ll_97 {R : RH} {K : KH} (h : Lay R K) : K.2.1 97 = 100 := (h.1 97 (by decide)).2
theorem lk_98 {R : RH} {K : KH} (h : Lay R K) : K.1 98 = 100 := (h.1 98 (by decide)).1
theorem ll_98 {R : RH} {K : KH} (h : Lay R K) : K.2.1 98 = 100 := (h.1 98 (by decide)).2
theorem lk_99 {R : RH} {K : KH} (h : Lay R K) : K.1 99 = 100 := (h.1 99 (by decide)).1
theorem ll_99 {R : RH} {K : KH} (h : Lay R K) : K.2.1 99 = 60 := (h.1 99 (by decide)).2
theorem lk_100 {R : RH} {K : KH} (h : Lay R K) : K.1 100 = 100 := (h.1 100 (by decide)).1
theorem ll_100 {R : RH} {K : KH} (h : Lay R K) : K.2.1 100 = 60 := (h.1 100 (by decide)).2
theorem lk_101 {R : RH} {K : KH} (h : Lay R K) : K.1 101 = 100 := (h.1 101 (by decide)).1
theorem ll_101 {R : RH} {K : KH} (h : Lay R K) : K.2.1 101 = 60 := (h.1 101 (by decide)).2
theorem lk_102 {R : RH} {K : KH} (h : Lay R K) : K.1 102 = 100 := (h.1 102 (by decide)).1
theorem ll_102 {R : RH} {K : KH} (h : Lay R K) : K.2.1 102 = 30 := (h.1 102 (by decide)).2
theorem lk_103 {R : RH} {K : KH} (h : Lay R K) : K.1 103 = 100 := (h.1 103 (by decide)).1
theorem ll_103 {R : RH} {K : KH} (h : Lay R K) : K.2.1 103 = 30 := (h.1 103 (by decide)).2
theorem lk_104 {R : RH} {K : KH} (h : Lay R K) : K.1 104 = 100 := (h.1 104 (by decide)).1
theorem ll_104 {R : RH} {K : KH} (h : Lay R K) : K.2.1 104 = 30 := (h.1 104 (by decide)).2
theorem lk_105 {R : RH} {K : KH} (h : Lay R K) : K.1 105 = 100 := (h.1 105 (by decide)).1
theorem ll_105 {R : RH} {K : KH} (h : Lay R K) : K.2.1 105 = 30 := (h.1 105 (by decide)).2
theorem lk_106 {R : RH} {K : KH} (h : Lay R K) : K.1 106 = 100 := (h.1 106 (by decide)).1
theorem ll_106 {R : RH} {K : KH} (h : Lay R K) : K.2.1 106 = 30 := (h.1 106 (by decide)).2
theorem lk_107 {R : RH} {K : KH} (h : Lay R K) : K.1 107 = 100 := (h.1 107 (by decide)).1
theorem ll_107 {R : RH} {K : KH} (h : Lay R K) : K.2.1 107 = 30 := (h.1 107 (by decide)).2
theorem lk_108 {R : RH} {K : KH} (h : Lay R K) : K.1 108 = 100 := (h.1 108 (by decide)).1
theorem ll_108 {R : RH} {K : KH} (h : Lay R K) : K.2.1 108 = 30 := (h.1 108 (by decide)).2
theorem lk_109 {R : RH} {K : KH} (h : Lay R K) : K.1 109 = 100 := (h.1 109 (by decide)).1
theorem ll_109 {R : RH} {K : KH} (h : Lay R K) : K.2.1 109 = 30 := (h.1 109 (by decide)).2
theorem lk_110 {R : RH} {K : KH} (h : Lay R K) : K.1 110 = 100 := (h.1 110 (by decide)).1
theorem ll_110 {R : RH} {K : KH} (h : Lay R K) : K.2.1 110 = 8 := (h.1 110 (by decide)).2
theorem lk_111 {R : RH} {K : KH} (h : Lay R K) : K.1 111 = 100 := (h.1 111 (by decide)).1
theorem ll_111 {R : RH} {K : KH} (h : Lay R K) : K.2.1 111 = 5 := (h.1 111 (by decide)).2
theorem lk_112 {R : RH} {K : KH} (h : Lay R K) : K.1 112 = 100 := (h.1 112 (by decide)).1
theorem ll_112 {R : RH} {K : KH} (h : Lay R K) : K.2.1 112 = 15 := (h.1 112 (by decide)).2
theorem lk_113 {R : RH} {K : KH} (h : Lay R K) : K.1 113 = 100 := (h.1 113 (by decide)).1
theorem ll_113 {R : RH} {K : KH} (h : Lay R K) : K.2.1 113 = 7 := (h.1 113 (by decide)).2
theorem lk_114 {R : RH} {K : KH} (h : Lay R K) : K.1 114 = 100 := (h.1 114 (by decide)).1
theorem ll_114 {R : RH} {K : KH} (h : Lay R K) : K.2.1 114 = 63 := (h.1 114 (by decide)).2
theorem lk_115 {R : RH} {K : KH} (h : Lay R K) : K.1 115 = 100 := (h.1 115 (by decide)).1
theorem ll_115 {R : RH} {K : KH} (h : Lay R K) : K.2.1 115 = 8 := (h.1 115 (by decide)).2
theorem lk_116 {R : RH} {K : KH} (h : Lay R K) : K.1 116 = 100 := (h.1 116 (by decide)).1
theorem ll_116 {R : RH} {K : KH} (h : Lay R K) : K.2.1 116 = 8 := (h.1 116 (by decide)).2
theorem lk_117 {R : RH} {K : KH} (h : Lay R K) : K.1 117 = 100 := (h.1 117 (by decide)).1
theorem ll_117 {R : RH} {K : KH} (h : Lay R K) : K.2.1 117 = 8 := (h.1 117 (by decide)).2
theorem lk_118 {R : RH} {K : KH} (h : Lay R K) : K.1 118 = 100 := (h.1 118 (by decide)).1
theorem ll_118 {R : RH} {K : KH} (h : Lay R K) : K.2.1 118 = 20 := (h.1 118 (by decide)).2
theorem lk_119 {R : RH} {K : KH} (h : Lay R K) : K.1 119 = 100 := (h.1 119 (by decide)).1
theorem ll_119 {R : RH} {K : KH} (h : Lay R K) : K.2.1 119 = 3 := (h.1 119 (by decide)).2
theorem lk_120 {R : RH} {K : KH} (h : Lay R K) : K.1 120 = 100 := (h.1 120 (by decide)).1
theorem ll_120 {R : RH} {K : KH} (h : Lay R K) : K.2.1 120 = 3 := (h.1 120 (by decide)).2
theorem lk_121 {R : RH} {K : KH} (h : Lay R K) : K.1 121 = 100 := (h.1 121 (by decide)).1
theorem ll_121 {R : RH} {K : KH} (h : Lay R K) : K.2.1 121 = 120 := (h.1 121 (by decide)).2
theorem lk_122 {R : RH} {K : KH} (h : Lay R K) : K.1 122 = 101 := (h.1 122 (by decide)).1
theorem ll_122 {R : RH} {K : KH} (h : Lay R K) : K.2.1 122 = 1536 := (h.1 122 (by decide)).2
theorem lk_123 {R : RH} {K : KH} (h : Lay R K) : K.1 123 = 101 := (h.1 123 (by decide)).1
theorem ll_123 {R : RH} {K : KH} (h : Lay R K) : K.2.1 123 = 72 := (h.1 123 (by decide)).2
theorem lk_124 {R : RH} {K : KH} (h : Lay R K) : K.1 124 = 100 := (h.1 124 (by decide)).1
theorem ll_124 {R : RH} {K : KH} (h : Lay R K) : K.2.1 124 = 7680 := (h.1 124 (by decide)).2
theorem lk_125 {R : RH} {K : KH} (h : Lay R K) : K.1 125 = 100 := (h.1 125 (by decide)).1
theorem ll_125 {R : RH} {K : KH} (h : Lay R K) : K.2.1 125 = 1536 := (h.1 125 (by decide)).2
theorem lk_126 {R : RH} {K : KH} (h : Lay R K) : K.1 126 = 100 := (h.1 126 (by decide)).1
theorem ll_126 {R : RH} {K : KH} (h : Lay R K) : K.2.1 126 = 1536 := (h.1 126 (by decide)).2
theorem lk_127 {R : RH} {K : KH} (h : Lay R K) : K.1 127 = 100 := (h.1 127 (by decide)).1
theorem ll_127 {R : RH} {K : KH} (h : Lay R K) : K.2.1 127 = 5 := (h.1 127 (by decide)).2
theorem lk_128 {R : RH} {K : KH} (h : Lay R K) : K.1 128 = 100 := (h.1 128 (by decide)).1
theorem ll_128 {R : RH} {K : KH} (h : Lay R K) : K.2.1 128 = 5 := (h.1 128 (by decide)).2
theorem lk_129 {R : RH} {K : KH} (h : Lay R K) : K.1 129 = 100 := (h.1 129 (by decide)).1
theorem ll_129 {R : RH} {K : KH} (h : Lay R K) : K.2.1 129 = 256 := (h.1 129 (by decide)).2
theorem lk_130 {R : RH} {K : KH} (h : Lay R K) : K.1 130 = 100 := (h.1 130 (by decide)).1
theorem ll_130 {R : RH} {K : KH} (h : Lay R K) : K.2.1 130 = 8 := (h.1 130 (by decide)).2
theorem lr_0_0 {R : RH} {K : KH} (h : Lay R K) : R 0 0 = some 1 := h.2.1 (0, 0, 1) (by decide)
theorem lr_0_1 {R : RH} {K : KH} (h : Lay R K) : R 0 1 = some 2 := h.2.1 (0, 1, 2) (by decide)
theorem lr_0_2 {R : RH} {K : KH} (h : Lay R K) : R 0 2 = some 14 := h.2.1 (0, 2, 14) (by decide)
theorem lr_0_3 {R : RH} {K : KH} (h : Lay R K) : R 0 3 = some 22 := h.2.1 (0, 3, 22) (by decide)
theorem lr_0_4 {R : RH} {K : KH} (h : Lay R K) : R 0 4 = some 27 := h.2.1 (0, 4, 27) (by decide)
theorem lr_0_5 {R : RH} {K : KH} (h : Lay R K) : R 0 5 = some 36 := h.2.1 (0, 5, 36) (by decide)
theorem lr_0_6 {R : RH} {K : KH} (h : Lay R K) : R 0 6 = some 45 := h.2.1 (0, 6, 45) (by decide)
theorem lr_0_7 {R : RH} {K : KH} (h : Lay R K) : R 0 7 = some 57 := h.2.1 (0, 7, 57) (by decide)
theorem lr_0_8 {R : RH} {K : KH} (h : Lay R K) : R 0 8 = some 62 := h.2.1 (0, 8, 62) (by decide)
theorem lr_0_9 {R : RH} {K : KH} (h : Lay R K) : R 0 9 = some 69 := h.2.1 (0, 9, 69) (by decide)
theorem lr_2_0 {R : RH} {K : KH} (h : Lay R K) : R 2 0 = some 3 := h.2.1 (2, 0, 3) (by decide)
theorem lr_2_1 {R : RH} {K : KH} (h : Lay R K) : R 2 1 = some 4 := h.2.1 (2, 1, 4) (by decide)
theorem lr_2_2 {R : RH} {K : KH} (h : Lay R K) : R 2 2 = some 12 := h.2.1 (2, 2, 12) (by decide)
theorem lr_2_3 {R : RH} {K : KH} (h : Lay R K) : R 2 3 = some 13 := h.2.1 (2, 3, 13) (by decide)
theorem lr_4_0 {R : RH} {K : KH} (h : Lay R K) : R 4 0 = some 5 := h.2.1 (4, 0, 5) (by decide)
theorem lr_4_1 {R : RH} {K : KH} (h : Lay R K) : R 4 1 = some 6 := h.2.1 (4, 1, 6) (by decide)
theorem lr_4_2 {R : RH} {K : KH} (h : Lay R K) : R 4 2 = some 7 := h.2.1 (4, 2, 7) (by decide)
theorem lr_4_3 {R : RH} {K : KH} (h : Lay R K) : R 4 3 = some 8 := h.2.1 (4, 3, 8) (by decide)
theorem lr_4_4 {R : RH} {K : KH} (h : Lay R K) : R 4 4 = some 9 := h.2.1 (4, 4, 9) (by decide)
theorem lr_4_5 {R : RH} {K : KH} (h : Lay R K) : R 4 5 = some 10 := h.2.1 (4, 5, 10) (by decide)
theorem lr_4_6 {R : RH} {K : KH} (h : Lay R K) : R 4 6 = some 11 := h.2.1 (4, 6, 11) (by decide)
theorem lr_14_0 {R : RH} {K : KH} (h : Lay R K) : R 14 0 = some 2 := h.2.1 (14, 0, 2) (by decide)
theorem lr_14_1 {R : RH} {K : KH} (h : Lay R K) : R 14 1 = some 15 := h.2.1 (14, 1, 15) (by decide)
theorem lr_14_2 {R : RH} {K : KH} (h : Lay R K) : R 14 2 = some 16 := h.2.1 (14, 2, 16) (by decide)
theorem lr_14_3 {R : RH} {K : KH} (h : Lay R K) : R 14 3 = some 17 := h.2.1 (14, 3, 17) (by decide)
theorem lr_14_4 {R : RH} {K : KH} (h : Lay R K) : R 14 4 = some 18 := h.2.1 (14, 4, 18) (by decide)
theorem lr_14_5 {R : RH} {K : KH} (h : Lay R K) : R 14 5 = some 19 := h.2.1 (14, 5, 19) (by decide)
theorem lr_14_6 {R : RH} {K : KH} (h : Lay R K) : R 14 6 = some 20 := h.2.1 (14, 6, 20) (by decide)
theorem lr_14_7 {R : RH} {K : KH} (h : Lay R K) : R 14 7 = some 21 := h.2.1 (14, 7, 21) (by decide)
theorem lr_22_0 {R : RH} {K : KH} (h : Lay R K) : R 22 0 = some 23 := h.2.1 (22, 0, 23) (by decide)
theorem lr_22_1 {R : RH} {K : KH} (h : Lay R K) : R 22 1 = some 24 := h.2.1 (22, 1, 24) (by decide)
theorem lr_22_2 {R : RH} {K : KH} (h : Lay R K) : R 22 2 = some 25 := h.2.1 (22, 2, 25) (by decide)
theorem lr_22_3 {R : RH} {K : KH} (h : Lay R K) : R 22 3 = some 26 := h.2.1 (22, 3, 26) (by decide)
theorem lr_27_0 {R : RH} {K : KH} (h : Lay R K) : R 27 0 = some 14 := h.2.1 (27, 0, 14) (by decide)
theorem lr_27_1 {R : RH} {K : KH} (h : Lay R K) : R 27 1 = some 28 := h.2.1 (27, 1, 28) (by decide)
theorem lr_27_2 {R : RH} {K : KH} (h : Lay R K) : R 27 2 = some 29 := h.2.1 (27, 2, 29) (by decide)
theorem lr_27_3 {R : RH} {K : KH} (h : Lay R K) : R 27 3 = some 30 := h.2.1 (27, 3, 30) (by decide)
theorem lr_27_4 {R : RH} {K : KH} (h : Lay R K) : R 27 4 = some 31 := h.2.1 (27, 4, 31) (by decide)
theorem lr_27_5 {R : RH} {K : KH} (h : Lay R K) : R 27 5 = some 32 := h.2.1 (27, 5, 32) (by decide)
theorem lr_27_6 {R : RH} {K : KH} (h : Lay R K) : R 27 6 = some 33 := h.2.1 (27, 6, 33) (by decide)
theorem lr_27_7 {R : RH} {K : KH} (h : Lay R K) : R 27 7 = some 34 := h.2.1 (27, 7, 34) (by decide)
theorem lr_27_8 {R : RH} {K : KH} (h : Lay R K) : R 27 8 = some 35 := h.2.1 (27, 8, 35) (by decide)
theorem lr_36_0 {R : RH} {K : KH} (h : Lay R K) : R 36 0 = some 2 := h.2.1 (36, 0, 2) (by decide)
theorem lr_36_1 {R : RH} {K : KH} (h : Lay R K) : R 36 1 = some 14 := h.2.1 (36, 1, 14) (by decide)
theorem lr_36_2 {R : RH} {K : KH} (h : Lay R K) : R 36 2 = some 37 := h.2.1 (36, 2, 37) (by decide)
theorem lr_36_3 {R : RH} {K : KH} (h : Lay R K) : R 36 3 = some 38 := h.2.1 (36, 3, 38) (by decide)
theorem lr_36_4 {R : RH} {K : KH} (h : Lay R K) : R 36 4 = some 39 := h.2.1 (36, 4, 39) (by decide)
theorem lr_36_5 {R : RH} {K : KH} (h : Lay R K) : R 36 5 = some 40 := h.2.1 (36, 5, 40) (by decide)
theorem lr_36_6 {R : RH} {K : KH} (h : Lay R K) : R 36 6 = some 41 := h.2.1 (36, 6, 41) (by decide)
theorem lr_36_7 {R : RH} {K : KH} (h : Lay R K) : R 36 7 = some 42 := h.2.1 (36, 7, 42) (by decide)
theorem lr_36_9 {R : RH} {K : KH} (h : Lay R K) : R 36 9 = some 43 := h.2.1 (36, 9, 43) (by decide)
theorem lr_36_10 {R : RH} {K : KH} (h : Lay R K) : R 36 10 = some 44 := h.2.1 (36, 10, 44) (by decide)
theorem lr_45_0 {R : RH} {K : KH} (h : Lay R K) : R 45 0 = some 46 := h.2.1 (45, 0, 46) (by decide)
theorem lr_45_1 {R : RH} {K : KH} (h : Lay R K) : R 45 1 = some 47 := h.2.1 (45, 1, 47) (by decide)
theorem lr_47_0 {R : RH} {K : KH} (h : Lay R K) : R 47 0 = some 48 := h.2.1 (47, 0, 48) (by decide)
theorem lr_47_1 {R : RH} {K : KH} (h : Lay R K) : R 47 1 = some 49 := h.2.1 (47, 1, 49) (by decide)
theorem lr_47_2 {R : RH} {K : KH} (h : Lay R K) : R 47 2 = some 50 := h.2.1 (47, 2, 50) (by decide)
theorem lr_47_3 {R : RH} {K : KH} (h : Lay R K) : R 47 3 = some 51 := h.2.1 (47, 3, 51) (by decide)
theorem lr_47_4 {R : RH} {K : KH} (h : Lay R K) : R 47 4 = some 52 := h.2.1 (47, 4, 52) (by decide)
theorem lr_47_5 {R : RH} {K : KH} (h : Lay R K) : R 47 5 = some 53 := h.2.1 (47, 5, 53) (by decide)
theorem lr_47_6 {R : RH} {K : KH} (h : Lay R K) : R 47 6 = some 54 := h.2.1 (47, 6, 54) (by decide)
theorem lr_47_7 {R : RH} {K : KH} (h : Lay R K) : R 47 7 = some 55 := h.2.1 (47, 7, 55) (by decide)
theorem lr_47_8 {R : RH} {K : KH} (h : Lay R K) : R 47 8 = some 56 := h.2.1 (47, 8, 56) (by decide)
theorem lr_57_0 {R : RH} {K : KH} (h : Lay R K) : R 57 0 = some 58 := h.2.1 (57, 0, 58) (by decide)
theorem lr_57_1 {R : RH} {K : KH} (h : Lay R K) : R 57 1 = some 59 := h.2.1 (57, 1, 59) (by decide)
theorem lr_57_2 {R : RH} {K : KH} (h : Lay R K) : R 57 2 = some 60 := h.2.1 (57, 2, 60) (by decide)
theorem lr_57_3 {R : RH} {K : KH} (h : Lay R K) : R 57 3 = some 61 := h.2.1 (57, 3, 61) (by decide)
theorem lr_62_0 {R : RH} {K : KH} (h : Lay R K) : R 62 0 = some 63 := h.2.1 (62, 0, 63) (by decide)
theorem lr_62_1 {R : RH} {K : KH} (h : Lay R K) : R 62 1 = some 67 := h.2.1 (62, 1, 67) (by decide)
theorem lr_62_2 {R : RH} {K : KH} (h : Lay R K) : R 62 2 = some 68 := h.2.1 (62, 2, 68) (by decide)
theorem lr_63_0 {R : RH} {K : KH} (h : Lay R K) : R 63 0 = some 64 := h.2.1 (63, 0, 64) (by decide)
theorem lr_63_1 {R : RH} {K : KH} (h : Lay R K) : R 63 1 = some 65 := h.2.1 (63, 1, 65) (by decide)
theorem lr_63_2 {R : RH} {K : KH} (h : Lay R K) : R 63 2 = some 66 := h.2.1 (63, 2, 66) (by decide)
theorem lr_69_0 {R : RH} {K : KH} (h : Lay R K) : R 69 0 = some 70 := h.2.1 (69, 0, 70) (by decide)
theorem lr_71_0 {R : RH} {K : KH} (h : Lay R K) : R 71 0 = some 1 := h.2.1 (71, 0, 1) (by decide)
theorem lr_71_1 {R : RH} {K : KH} (h : Lay R K) : R 71 1 = some 72 := h.2.1 (71, 1, 72) (by decide)
theorem lr_71_2 {R : RH} {K : KH} (h : Lay R K) : R 71 2 = some 73 := h.2.1 (71, 2, 73) (by decide)
theorem lr_71_3 {R : RH} {K : KH} (h : Lay R K) : R 71 3 = some 74 := h.2.1 (71, 3, 74) (by decide)
theorem lr_71_4 {R : RH} {K : KH} (h : Lay R K) : R 71 4 = some 75 := h.2.1 (71, 4, 75) (by decide)
theorem lr_75_0 {R : RH} {K : KH} (h : Lay R K) : R 75 0 = some 76 := h.2.1 (75, 0, 76) (by decide)
theorem lr_77_1 {R : RH} {K : KH} (h : Lay R K) : R 77 1 = some 78 := h.2.1 (77, 1, 78) (by decide)
theorem lr_77_3 {R : RH} {K : KH} (h : Lay R K) : R 77 3 = some 79 := h.2.1 (77, 3, 79) (by decide)
theorem lr_77_4 {R : RH} {K : KH} (h : Lay R K) : R 77 4 = some 80 := h.2.1 (77, 4, 80) (by decide)
theorem lr_77_5 {R : RH} {K : KH} (h : Lay R K) : R 77 5 = some 81 := h.2.1 (77, 5, 81) (by decide)
theorem lr_77_6 {R : RH} {K : KH} (h : Lay R K) : R 77 6 = some 82 := h.2.1 (77, 6, 82) (by decide)
theorem lr_77_8 {R : RH} {K : KH} (h : Lay R K) : R 77 8 = some 83 := h.2.1 (77, 8, 83) (by decide)
theorem lr_77_9 {R : RH} {K : KH} (h : Lay R K) : R 77 9 = some 84 := h.2.1 (77, 9, 84) (by decide)
theorem lr_77_10 {R : RH} {K : KH} (h : Lay R K) : R 77 10 = some 85 := h.2.1 (77, 10, 85) (by decide)
theorem lr_77_11 {R : RH} {K : KH} (h : Lay R K) : R 77 11 = some 86 := h.2.1 (77, 11, 86) (by decide)
theorem lr_77_12 {R : RH} {K : KH} (h : Lay R K) : R 77 12 = some 87 := h.2.1 (77, 12, 87) (by decide)
theorem lr_77_13 {R : RH} {K : KH} (h : Lay R K) : R 77 13 = some 88 := h.2.1 (77, 13, 88) (by decide)
theorem lr_77_14 {R : RH} {K : KH} (h : Lay R K) : R 77 14 = some 89 := h.2.1 (77, 14, 89) (by decide)
theorem lr_77_15 {R : RH} {K : KH} (h : Lay R K) : R 77 15 = some 90 := h.2.1 (77, 15, 90) (by decide)
theorem lr_77_16 {R : RH} {K : KH} (h : Lay R K) : R 77 16 = some 91 := h.2.1 (77, 16, 91) (by decide)
theorem lr_77_17 {R : RH} {K : KH} (h : Lay R K) : R 77 17 = some 92 := h.2.1 (77, 17, 92) (by decide)
theorem lr_77_19 {R : RH} {K : KH} (h : Lay R K) : R 77 19 = some 93 := h.2.1 (77, 19, 93) (by decide)
theorem lr_77_20 {R : RH} {K : KH} (h : Lay R K) : R 77 20 = some 94 := h.2.1 (77, 20, 94) (by decide)
theorem lr_77_21 {R : RH} {K : KH} (h : Lay R K) : R 77 21 = some 95 := h.2.1 (77, 21, 95) (by decide)
theorem lr_77_24 {R : RH} {K : KH} (h : Lay R K) : R 77 24 = some 96 := h.2.1 (77, 24, 96) (by decide)
theorem lr_77_25 {R : RH} {K : KH} (h : Lay R K) : R 77 25 = some 97 := h.2.1 (77, 25, 97) (by decide)
theorem lr_77_26 {R : RH} {K : KH} (h : Lay R K) : R 77 26 = some 98 := h.2.1 (77, 26, 98) (by decide)
theorem lr_77_28 {R : RH} {K : KH} (h : Lay R K) : R 77 28 = some 99 := h.2.1 (77, 28, 99) (by decide)
theorem lr_77_29 {R : RH} {K : KH} (h : Lay R K) : R 77 29 = some 100 := h.2.1 (77, 29, 100) (by decide)
theorem lr_77_30 {R : RH} {K : KH} (h : Lay R K) : R 77 30 = some 101 := h.2.1 (77, 30, 101) (by decide)
theorem lr_77_32 {R : RH} {K : KH} (h : Lay R K) : R 77 32 = some 102 := h.2.1 (77, 32, 102) (by decide)
theorem lr_77_33 {R : RH} {K : KH} (h : Lay R K) : R 77 33 = some 103 := h.2.1 (77, 33, 103) (by decide)
theorem lr_77_34 {R : RH} {K : KH} (h : Lay R K) : R 77 34 = some 104 := h.2.1 (77, 34, 104) (by decide)
theorem lr_77_35 {R : RH} {K : KH} (h : Lay R K) : R 77 35 = some 105 := h.2.1 (77, 35, 105) (by decide)
theorem lr_77_36 {R : RH} {K : KH} (h : Lay R K) : R 77 36 = some 106 := h.2.1 (77, 36, 106) (by decide)
theorem lr_77_37 {R : RH} {K : KH} (h : Lay R K) : R 77 37 = some 107 := h.2.1 (77, 37, 107) (by decide)
theorem lr_77_38 {R : RH} {K : KH} (h : Lay R K) : R 77 38 = some 108 := h.2.1 (77, 38, 108) (by decide)
theorem lr_77_39 {R : RH} {K : KH} (h : Lay R K) : R 77 39 = some 109 := h.2.1 (77, 39, 109) (by decide)
theorem lr_77_40 {R : RH} {K : KH} (h : Lay R K) : R 77 40 = some 110 := h.2.1 (77, 40, 110) (by decide)
theorem lr_77_41 {R : RH} {K : KH} (h : Lay R K) : R 77 41 = some 111 := h.2.1 (77, 41, 111) (by decide)
theorem lr_77_42 {R : RH} {K : KH} (h : Lay R K) : R 77 42 = some 112 := h.2.1 (77, 42, 112) (by decide)
theorem lr_77_44 {R : RH} {K : KH} (h : Lay R K) : R 77 44 = some 113 := h.2.1 (77, 44, 113) (by decide)
theorem lr_77_46 {R : RH} {K : KH} (h : Lay R K) : R 77 46 = some 114 := h.2.1 (77, 46, 114) (by decide)
theorem lr_77_47 {R : RH} {K : KH} (h : Lay R K) : R 77 47 = some 115 := h.2.1 (77, 47, 115) (by decide)
theorem lr_77_48 {R : RH} {K : KH} (h : Lay R K) : R 77 48 = some 116 := h.2.1 (77, 48, 116) (by decide)
theorem lr_77_49 {R : RH} {K : KH} (h : Lay R K) : R 77 49 = some 117 := h.2.1 (77, 49, 117) (by decide)
theorem lr_77_50 {R : RH} {K : KH} (h : Lay R K) : R 77 50 = some 118 := h.2.1 (77, 50, 118) (by decide)
theorem lr_77_52 {R : RH} {K : KH} (h : Lay R K) : R 77 52 = some 119 := h.2.1 (77, 52, 119) (by decide)
theorem lr_77_53 {R : RH} {K : KH} (h : Lay R K) : R 77 53 = some 120 := h.2.1 (77, 53, 120) (by decide)
theorem lr_77_54 {R : RH} {K : KH} (h : Lay R K) : R 77 54 = some 121 := h.2.1 (77, 54, 121) (by decide)
theorem lr_77_59 {R : RH} {K : KH} (h : Lay R K) : R 77 59 = some 122 := h.2.1 (77, 59, 122) (by decide)
theorem lr_77_60 {R : RH} {K : KH} (h : Lay R K) : R 77 60 = some 123 := h.2.1 (77, 60, 123) (by decide)
theorem lr_77_61 {R : RH} {K : KH} (h : Lay R K) : R 77 61 = some 124 := h.2.1 (77, 61, 124) (by decide)
theorem lr_77_62 {R : RH} {K : KH} (h : Lay R K) : R 77 62 = some 125 := h.2.1 (77, 62, 125) (by decide)
theorem lr_77_63 {R : RH} {K : KH} (h : Lay R K) : R 77 63 = some 126 := h.2.1 (77, 63, 126) (by decide)
theorem lr_77_64 {R : RH} {K : KH} (h : Lay R K) : R 77 64 = some 127 := h.2.1 (77, 64, 127) (by decide)
theorem lr_77_65 {R : RH} {K : KH} (h : Lay R K) : R 77 65 = some 128 := h.2.1 (77, 65, 128) (by decide)
theorem lr_77_66 {R : RH} {K : KH} (h : Lay R K) : R 77 66 = some 129 := h.2.1 (77, 66, 129) (by decide)
theorem lr_77_67 {R : RH} {K : KH} (h : Lay R K) : R 77 67 = some 130 := h.2.1 (77, 67, 130) (by decide)
/-- a slot that no one reads: it holds no long -/
def nL (o : Option AV) : Prop := ∀ v, o = some v → isLng v = false
theorem nl_n : nL none := fun _ h => by cases h
theorem nl_i {x : Int} : nL (some (aI x)) := fun _ h => by cases h; rfl
theorem nl_r {x : Option Nat} : nL (some (aR x)) := fun _ h => by cases h; rfl
theorem nl_f {x : Nat} : nL (some (aF x)) := fun _ h => by cases h; rfl
theorem aset_nl {ls l1 : ALs} {k : Nat} {v : AV} {o : Option AV} (hn : nL o) (h1 : ls[k]? = some o) (h3 : Nat.ble (k + 2) ls.length = true) (h2 : ls.set (k + 1) (some v) = l1) : aset ls (k + 1) v = some l1 := by
  unfold aset
  have h4 : okBefore ls (k + 1) = true := by
    show (match aget ls k with | some v => !isLng v | none => true) = true
    unfold aget
    rw [h1]
    cases o with
    | none => rfl
    | some w => show (!isLng w) = true; rw [hn w rfl]; rfl
  rw [if_pos ⟨by have := Nat.le_of_ble_eq_true h3; omega, h4⟩, h2]
def rf (R : RH) (a k : Nat) : Nat := (R a k).getD 0
theorem rf_eq {R : RH} {a k c : Nat} (h : R a k = some c) : rf R a k = c := by unfold rf; rw [h]; rfl
def chk2 (lm lc xc na : Nat) (st : List AV) : Bool := Nat.blt lc lm && (Nat.ble na st.length && (Nat.ble (catS (st.drop na)) 8 && Nat.ble (mkL (st.take na).reverse).length xc))
section
variable {sc : Nat × (Nat → Int)} {mi pc : Nat} {ls : ALs} {st : List AV} {I : IH} {L : LH} {R : RH} {K : KH} {Q : AQ} {b : ByteArray} {o lm xm am oc lc xc ac idx cmi : Nat} {nest : Bool} {x1 x2 : Prop} {as r : List AV} {l0 : ALs}
theorem call2 {ks : Nat} (fm : mOwn mi = o ∧ mLvl mi = lm ∧ x1) (fc : mOwn cmi = oc ∧ mLvl cmi = lc ∧ mMaxL cmi = xc ∧ mArgs cmi = ac ∧ isMM cmi = false ∧ x2) (hs : cSite o idx = some (cmi, ks, nest)) (hc : chk2 lm lc xc (ac + if ks = 0 then 0 else 1) st = true) (ha : (st.take (ac + if ks = 0 then 0 else 1)).reverse = as) (hr : st.drop (ac + if ks = 0 then 0 else 1) = r) (hv : recvOK cmi ks as K = true) : callOf mi idx ks st K = some (cmi, as, r) := by
  have hc : lc < lm ∧ (ac + if ks = 0 then 0 else 1) ≤ st.length ∧ catS (st.drop (ac + if ks = 0 then 0 else 1)) ≤ 8 ∧ (mkL (st.take (ac + if ks = 0 then 0 else 1)).reverse).length ≤ xc := by
    unfold chk2 at hc
    simp only [Bool.and_eq_true] at hc
    exact ⟨by have := Nat.le_of_ble_eq_true hc.1; omega, Nat.le_of_ble_eq_true hc.2.1, Nat.le_of_ble_eq_true hc.2.2.1, Nat.le_of_ble_eq_true hc.2.2.2⟩
  have hna : naOf cmi ks = ac + if ks = 0 then 0 else 1 := by unfold naOf; rw [fc.2.2.2.1]
  refine callOf_eq fm.1 hs ?_ (by rw [hna]; exact ha) (by rw [hna]; exact hr) hv
  rw [hna, fm.2.1, fc.2.1, fc.2.2.1]
  exact ⟨hc.1, hc.2.1, hc.2.2.1, hc.2.2.2, Or.inr fc.2.2.2.2.1⟩
theorem e_callS (hb : mBytes mi = b) (hd : decode b pc = .ok (.invokestatic idx, 3)) (fm : mOwn mi = o ∧ mLvl mi = lm ∧ x1) (fc : mOwn cmi = oc ∧ mLvl cmi = lc ∧ mMaxL cmi = xc ∧ mArgs cmi = ac ∧ isMM cmi = false ∧ isStr cmi = false) (hs : cSite o idx = some (cmi, 0, nest)) (hc : chk2 lm lc xc ac st = true) (ha : (st.take ac).reverse = as) (hr : st.drop ac = r) (hl : padL xc (mkL as) = l0) (h : E sc cmi 0 l0 [] I L R K fun rv I1 L1 R1 K1 => E sc mi (pc + 3) ls (rv.toList ++ r) I1 L1 R1 K1 Q) : E sc mi pc ls st I L R K Q := by
  refine e_call (ks := 0) hb hd ?_ (call2 fm fc hs hc ha hr recv_st) (by rw [fc.2.2.1]; exact hl) h
  have := (cSite_no hs).1
  unfold plainCall
  rw [fm.1, this, fc.2.2.2.2.1]; rfl
theorem e_callV {a : Nat} (hb : mBytes mi = b) (hd : decode b pc = .ok (.invokevirtual idx, 3)) (fm : mOwn mi = o ∧ mLvl mi = lm ∧ x1) (fc : mOwn cmi = oc ∧ mLvl cmi = lc ∧ mMaxL cmi = xc ∧ mArgs cmi = ac ∧ isMM cmi = false ∧ isStr cmi = false) (hs : cSite o idx = some (cmi, 1, nest)) (hc : chk2 lm lc xc (ac + 1) st = true) (ha : (st.take (ac + 1)).reverse = aR (some a) :: as) (hr : st.drop (ac + 1) = r) (hl : padL xc (mkL (aR (some a) :: as)) = l0) (hk : K.1 a = oc) (h13 : Nat.blt oc 13 = true) (h : E sc cmi 0 l0 [] I L R K fun rv I1 L1 R1 K1 => E sc mi (pc + 3) ls (rv.toList ++ r) I1 L1 R1 K1 Q) : E sc mi pc ls st I L R K Q := by
  refine e_call (ks := 1) hb hd ?_ (call2 fm fc hs hc ha hr (recv_at hk fc.1 (by have := Nat.le_of_ble_eq_true h13; omega))) (by rw [fc.2.2.1]; exact hl) h
  unfold plainCall
  rw [fc.2.2.2.2.2]; rfl
theorem e_callP {a : Nat} (hb : mBytes mi = b) (hd : decode b pc = .ok (.invokespecial idx, 3)) (fm : mOwn mi = o ∧ mLvl mi = lm ∧ x1) (fc : mOwn cmi = oc ∧ mLvl cmi = lc ∧ mMaxL cmi = xc ∧ mArgs cmi = ac ∧ isMM cmi = false ∧ isStr cmi = false) (hs : cSite o idx = some (cmi, 2, nest)) (hc : chk2 lm lc xc (ac + 1) st = true) (ha : (st.take (ac + 1)).reverse = aR (some a) :: as) (hr : st.drop (ac + 1) = r) (hl : padL xc (mkL (aR (some a) :: as)) = l0) (hk : K.1 a = oc) (h13 : Nat.blt oc 13 = true) (h : E sc cmi 0 l0 [] I L R K fun rv I1 L1 R1 K1 => E sc mi (pc + 3) ls (rv.toList ++ r) I1 L1 R1 K1 Q) : E sc mi pc ls st I L R K Q := by
  refine e_call (ks := 2) hb hd ?_ (call2 fm fc hs hc ha hr (recv_at hk fc.1 (by have := Nat.le_of_ble_eq_true h13; omega))) (by rw [fc.2.2.1]; exact hl) h
  have := (cSite_no hs).2
  unfold plainCall
  rw [fm.1, this]; rfl
theorem e_getv {k a ci : Nat} {v : Int} (hb : mBytes mi = b) (hd : decode b pc = .ok (.getfield idx, 3)) (ho : mOwn mi = o) (hs : fSite o idx = some (ci, k, nest)) (hf : fKind ci k = 0 ∨ fKind ci k = 1) (hk : K.1 a = ci) (hv : I a k = v) (h : E sc mi (pc + 3) ls (aI v :: st) I L R K Q) : E sc mi pc ls (aR (some a) :: st) I L R K Q := by
  subst ho
  exact e_getfield hb hd hs hf hk (by rw [hv]; exact h)
theorem e_getr {k a ci c : Nat} (hb : mBytes mi = b) (hd : decode b pc = .ok (.getfield idx, 3)) (ho : mOwn mi = o) (hs : fSite o idx = some (ci, k, nest)) (hf : fKind ci k = 2) (hk : K.1 a = ci) (hr : R a k = some c) (h : E sc mi (pc + 3) ls (aR (some c) :: st) I L R K Q) : E sc mi pc ls (aR (some a) :: st) I L R K Q := by
  subst ho
  exact e_getref hb hd hs hf hk hr h
theorem e_puti {k a ci : Nat} {x : Int} (hb : mBytes mi = b) (hd : decode b pc = .ok (.putfield idx, 3)) (ho : mOwn mi = o) (hs : fSite o idx = some (ci, k, nest)) (hf : fKind ci k = 0) (hp : fFin ci k = false ∨ (mOwn mi = ci ∧ nest = false ∧ (mName mi).name = "<init>")) (hk : K.1 a = ci) (h : E sc mi (pc + 3) ls st (setF I a k x) L R K Q) : E sc mi pc ls (aI x :: aR (some a) :: st) I L R K Q := by
  subst ho
  exact e_putint hb hd hs hf hp hk h
theorem e_putb {k a ci : Nat} {x : Int} (hb : mBytes mi = b) (hd : decode b pc = .ok (.putfield idx, 3)) (ho : mOwn mi = o) (hs : fSite o idx = some (ci, k, nest)) (hf : fKind ci k = 1) (hp : fFin ci k = false ∨ (mOwn mi = ci ∧ nest = false ∧ (mName mi).name = "<init>")) (hk : K.1 a = ci) (hx : x = 0 ∨ x = 1) (h : E sc mi (pc + 3) ls st (setF I a k x) L R K Q) : E sc mi pc ls (aI x :: aR (some a) :: st) I L R K Q := by
  subst ho
  exact e_putbool hb hd hs hf hp hk hx h
theorem e_putr {k a ci c : Nat} (hb : mBytes mi = b) (hd : decode b pc = .ok (.putfield idx, 3)) (ho : mOwn mi = o) (hs : fSite o idx = some (ci, k, nest)) (hf : fKind ci k = 2) (hp : fFin ci k = false ∨ (mOwn mi = ci ∧ nest = false ∧ (mName mi).name = "<init>")) (hk : K.1 a = ci) (h : E sc mi (pc + 3) ls st I L (setF R a k (some c)) K Q) : E sc mi pc ls (aR (some c) :: aR (some a) :: st) I L R K Q := by
  subst ho
  exact e_putref hb hd hs hf hp hk h
theorem e_ial {n a : Nat} {i v : Int} (hb : mBytes mi = b) (hd : decode b pc = .ok (.iaload, 1)) (hk : K.1 a = 100) (hn : K.2.1 a = n) (hi : 0 ≤ i ∧ i < (n : Int)) (hv : I a i.toNat = v) (h : E sc mi (pc + 1) ls (aI v :: st) I L R K Q) : E sc mi pc ls (aI i :: aR (some a) :: st) I L R K Q := e_iaload hb hd hk hn hi (by rw [hv]; exact h)
theorem e_bal {n a : Nat} {i v : Int} (hb : mBytes mi = b) (hd : decode b pc = .ok (.baload, 1)) (hk : K.1 a = 101) (hn : K.2.1 a = n) (hi : 0 ≤ i ∧ i < (n : Int)) (hv : I a i.toNat = v) (h : E sc mi (pc + 1) ls (aI v :: st) I L R K Q) : E sc mi pc ls (aI i :: aR (some a) :: st) I L R K Q := e_baload hb hd hk hn hi (by rw [hv]; exact h)
theorem b2i_01 {p : Prop} [Decidable p] : b2i p = 0 ∨ b2i p = 1 := by
  unfold b2i
  by_cases h : p
  · rw [if_pos h]; exact Or.inr rfl
  · rw [if_neg h]; exact Or.inl rfl
end
