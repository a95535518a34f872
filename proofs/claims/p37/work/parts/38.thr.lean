/-! WHO THROWS, AND THAT NO METHOD OF THE CLASS CATCHES -/
theorem mt_1 : mT 1 = true := rfl
theorem mt_2 : mT 2 = true := rfl
theorem mt_3 : mT 3 = true := rfl
theorem mt_4 : mT 4 = true := rfl
theorem mt_5 : mT 5 = true := rfl
theorem mt_6 : mT 6 = true := rfl
theorem mt_7 : mT 7 = true := rfl
theorem mt_8 : mT 8 = true := rfl
theorem mt_9 : mT 9 = true := rfl
theorem mt_10 : mT 10 = true := rfl
theorem mt_12 : mT 12 = true := rfl
theorem mt_13 : mT 13 = true := rfl
theorem mt_14 : mT 14 = true := rfl
theorem mt_15 : mT 15 = true := rfl
theorem mt_22 : mT 22 = true := rfl
theorem mt_23 : mT 23 = true := rfl
theorem mt_24 : mT 24 = true := rfl
theorem mt_25 : mT 25 = true := rfl
theorem mt_26 : mT 26 = true := rfl
theorem mt_27 : mT 27 = true := rfl
theorem mt_30 : mT 30 = true := rfl
theorem mt_32 : mT 32 = true := rfl
theorem mt_33 : mT 33 = true := rfl
theorem mt_34 : mT 34 = true := rfl
theorem mt_35 : mT 35 = true := rfl
theorem mt_38 : mT 38 = true := rfl
theorem mt_39 : mT 39 = true := rfl
theorem mt_40 : mT 40 = true := rfl
theorem mt_41 : mT 41 = true := rfl
theorem mt_42 : mT 42 = true := rfl
theorem mt_43 : mT 43 = true := rfl
theorem mt_44 : mT 44 = true := rfl
theorem hx_2_5 (E : Nat) : hdX 2 5 E = none := rfl
theorem hx_2_30 (E : Nat) : hdX 2 30 E = none := rfl
theorem hx_4_1 (E : Nat) : hdX 4 1 E = none := rfl
theorem hx_4_3 (E : Nat) : hdX 4 3 E = none := rfl
theorem hx_5_1 (E : Nat) : hdX 5 1 E = none := rfl
theorem hx_5_3 (E : Nat) : hdX 5 3 E = none := rfl
theorem hx_5_19 (E : Nat) : hdX 5 19 E = none := rfl
theorem hx_6_5 (E : Nat) : hdX 6 5 E = none := rfl
theorem hx_6_18 (E : Nat) : hdX 6 18 E = none := rfl
theorem hx_7_24 (E : Nat) : hdX 7 24 E = none := rfl
theorem hx_10_5 (E : Nat) : hdX 10 5 E = none := rfl
theorem hx_13_5 (E : Nat) : hdX 13 5 E = none := rfl
theorem hx_14_2 (E : Nat) : hdX 14 2 E = none := rfl
theorem hx_15_2 (E : Nat) : hdX 15 2 E = none := rfl
theorem hx_15_5 (E : Nat) : hdX 15 5 E = none := rfl
theorem hx_22_2 (E : Nat) : hdX 22 2 E = none := rfl
theorem hx_23_2 (E : Nat) : hdX 23 2 E = none := rfl
theorem hx_23_5 (E : Nat) : hdX 23 5 E = none := rfl
theorem hx_24_2 (E : Nat) : hdX 24 2 E = none := rfl
theorem hx_24_5 (E : Nat) : hdX 24 5 E = none := rfl
theorem hx_25_2 (E : Nat) : hdX 25 2 E = none := rfl
theorem hx_25_5 (E : Nat) : hdX 25 5 E = none := rfl
theorem hx_26_2 (E : Nat) : hdX 26 2 E = none := rfl
theorem hx_27_2 (E : Nat) : hdX 27 2 E = none := rfl
theorem hx_30_2 (E : Nat) : hdX 30 2 E = none := rfl
theorem hx_30_5 (E : Nat) : hdX 30 5 E = none := rfl
theorem hx_32_2 (E : Nat) : hdX 32 2 E = none := rfl
theorem hx_33_2 (E : Nat) : hdX 33 2 E = none := rfl
theorem hx_34_2 (E : Nat) : hdX 34 2 E = none := rfl

