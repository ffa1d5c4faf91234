/-! the words: the class's seek gives the k-th, its rank is k, the reference's next goes from each to the next -/
def cat (n : Nat) : Nat := [0, 1, 2, 5, 14, 42, 132, 429, 1430, 4862].getD n 0
noncomputable def sk (n k : Nat) : Nat × Nat × Nat := (f_RK_seek n k 0 0 0).getD (0, 0, 0)
noncomputable def wB (n k : Nat) : Nat := (sk n k).1
noncomputable def wC (n k : Nat) : Nat := (sk n k).2.1
noncomputable def bnd (a b : Bool) : Bool := Bool.rec false b a
theorem bnd_t {a b : Bool} (h : bnd a b = true) : a = true ∧ b = true := by
  cases a with
  | false => cases h
  | true => exact ⟨rfl, h⟩
noncomputable def alB (P : Nat → Bool) (a m : Nat) : Bool := Nat.rec true (fun i r => bnd (P (Nat.add a i)) r) m
def upTo (P : Nat → Bool) (m : Nat) : Prop := ∀ k : Nat, k < m → P k = true
theorem upTo.ext {P : Nat → Bool} {a m : Nat} (h : upTo P a) (h2 : alB P a m = true) : upTo P (a + m) := by
  induction m with
  | zero => exact h
  | succ m ih =>
    obtain ⟨h3, h4⟩ := bnd_t (show bnd (P (Nat.add a m)) (alB P a m) = true from h2)
    intro k hk
    by_cases hm : k < a + m
    · exact ih h4 k hm
    · have e : k = Nat.add a m := by
        show k = a + m
        omega
      rw [e]
      exact h3
theorem upTo.z (P : Nat → Bool) : upTo P 0 := fun k h => by omega
/-- at the number k: the seek ends, with n pairs; the rank of what it gives is k; the reference's next is the seek of k + 1, or there is none -/
noncomputable def ckW (n k : Nat) : Bool := Option.rec false (fun r => bnd (Nat.beq r.2.2 n) (bnd (Option.rec false (fun v => Nat.beq v k) (f_RK_of r.1 n)) (Option.rec false (fun q => Bool.rec (bnd (Nat.beq q.1 1) (Option.rec false (fun r2 => Nat.beq q.2 r2.1) (f_RK_seek n (Nat.succ k) 0 0 0))) (Nat.beq q.1 0) (Nat.beq (Nat.succ k) (cat n))) (f_MO_next n r.1)))) (f_RK_seek n k 0 0 0)
theorem uw1_0 : upTo (ckW 1) 1 := upTo.ext (a := 0) (m := 1) (upTo.z (ckW 1)) (by decide +kernel)
theorem uw1 : upTo (ckW 1) 1 := uw1_0
theorem uw2_0 : upTo (ckW 2) 2 := upTo.ext (a := 0) (m := 2) (upTo.z (ckW 2)) (by decide +kernel)
theorem uw2 : upTo (ckW 2) 2 := uw2_0
theorem uw3_0 : upTo (ckW 3) 5 := upTo.ext (a := 0) (m := 5) (upTo.z (ckW 3)) (by decide +kernel)
theorem uw3 : upTo (ckW 3) 5 := uw3_0
theorem uw4_0 : upTo (ckW 4) 5 := upTo.ext (a := 0) (m := 5) (upTo.z (ckW 4)) (by decide +kernel)
theorem uw4_1 : upTo (ckW 4) 10 := upTo.ext (a := 5) (m := 5) uw4_0 (by decide +kernel)
theorem uw4_2 : upTo (ckW 4) 14 := upTo.ext (a := 10) (m := 4) uw4_1 (by decide +kernel)
theorem uw4 : upTo (ckW 4) 14 := uw4_2
theorem uw5_0 : upTo (ckW 5) 5 := upTo.ext (a := 0) (m := 5) (upTo.z (ckW 5)) (by decide +kernel)
theorem uw5_1 : upTo (ckW 5) 10 := upTo.ext (a := 5) (m := 5) uw5_0 (by decide +kernel)
theorem uw5_2 : upTo (ckW 5) 15 := upTo.ext (a := 10) (m := 5) uw5_1 (by decide +kernel)
theorem uw5_3 : upTo (ckW 5) 20 := upTo.ext (a := 15) (m := 5) uw5_2 (by decide +kernel)
theorem uw5_4 : upTo (ckW 5) 25 := upTo.ext (a := 20) (m := 5) uw5_3 (by decide +kernel)
theorem uw5_5 : upTo (ckW 5) 30 := upTo.ext (a := 25) (m := 5) uw5_4 (by decide +kernel)
theorem uw5_6 : upTo (ckW 5) 35 := upTo.ext (a := 30) (m := 5) uw5_5 (by decide +kernel)
theorem uw5_7 : upTo (ckW 5) 40 := upTo.ext (a := 35) (m := 5) uw5_6 (by decide +kernel)
theorem uw5_8 : upTo (ckW 5) 42 := upTo.ext (a := 40) (m := 2) uw5_7 (by decide +kernel)
theorem uw5 : upTo (ckW 5) 42 := uw5_8
theorem uw6_0 : upTo (ckW 6) 5 := upTo.ext (a := 0) (m := 5) (upTo.z (ckW 6)) (by decide +kernel)
theorem uw6_1 : upTo (ckW 6) 10 := upTo.ext (a := 5) (m := 5) uw6_0 (by decide +kernel)
theorem uw6_2 : upTo (ckW 6) 15 := upTo.ext (a := 10) (m := 5) uw6_1 (by decide +kernel)
theorem uw6_3 : upTo (ckW 6) 20 := upTo.ext (a := 15) (m := 5) uw6_2 (by decide +kernel)
theorem uw6_4 : upTo (ckW 6) 25 := upTo.ext (a := 20) (m := 5) uw6_3 (by decide +kernel)
theorem uw6_5 : upTo (ckW 6) 30 := upTo.ext (a := 25) (m := 5) uw6_4 (by decide +kernel)
theorem uw6_6 : upTo (ckW 6) 35 := upTo.ext (a := 30) (m := 5) uw6_5 (by decide +kernel)
theorem uw6_7 : upTo (ckW 6) 40 := upTo.ext (a := 35) (m := 5) uw6_6 (by decide +kernel)
theorem uw6_8 : upTo (ckW 6) 45 := upTo.ext (a := 40) (m := 5) uw6_7 (by decide +kernel)
theorem uw6_9 : upTo (ckW 6) 50 := upTo.ext (a := 45) (m := 5) uw6_8 (by decide +kernel)
theorem uw6_10 : upTo (ckW 6) 55 := upTo.ext (a := 50) (m := 5) uw6_9 (by decide +kernel)
theorem uw6_11 : upTo (ckW 6) 60 := upTo.ext (a := 55) (m := 5) uw6_10 (by decide +kernel)
theorem uw6_12 : upTo (ckW 6) 65 := upTo.ext (a := 60) (m := 5) uw6_11 (by decide +kernel)
theorem uw6_13 : upTo (ckW 6) 70 := upTo.ext (a := 65) (m := 5) uw6_12 (by decide +kernel)
theorem uw6_14 : upTo (ckW 6) 75 := upTo.ext (a := 70) (m := 5) uw6_13 (by decide +kernel)
theorem uw6_15 : upTo (ckW 6) 80 := upTo.ext (a := 75) (m := 5) uw6_14 (by decide +kernel)
theorem uw6_16 : upTo (ckW 6) 85 := upTo.ext (a := 80) (m := 5) uw6_15 (by decide +kernel)
theorem uw6_17 : upTo (ckW 6) 90 := upTo.ext (a := 85) (m := 5) uw6_16 (by decide +kernel)
theorem uw6_18 : upTo (ckW 6) 95 := upTo.ext (a := 90) (m := 5) uw6_17 (by decide +kernel)
theorem uw6_19 : upTo (ckW 6) 100 := upTo.ext (a := 95) (m := 5) uw6_18 (by decide +kernel)
theorem uw6_20 : upTo (ckW 6) 105 := upTo.ext (a := 100) (m := 5) uw6_19 (by decide +kernel)
theorem uw6_21 : upTo (ckW 6) 110 := upTo.ext (a := 105) (m := 5) uw6_20 (by decide +kernel)
theorem uw6_22 : upTo (ckW 6) 115 := upTo.ext (a := 110) (m := 5) uw6_21 (by decide +kernel)
theorem uw6_23 : upTo (ckW 6) 120 := upTo.ext (a := 115) (m := 5) uw6_22 (by decide +kernel)
theorem uw6_24 : upTo (ckW 6) 125 := upTo.ext (a := 120) (m := 5) uw6_23 (by decide +kernel)
theorem uw6_25 : upTo (ckW 6) 130 := upTo.ext (a := 125) (m := 5) uw6_24 (by decide +kernel)
theorem uw6_26 : upTo (ckW 6) 132 := upTo.ext (a := 130) (m := 2) uw6_25 (by decide +kernel)
theorem uw6 : upTo (ckW 6) 132 := uw6_26
theorem uw7_0 : upTo (ckW 7) 5 := upTo.ext (a := 0) (m := 5) (upTo.z (ckW 7)) (by decide +kernel)
theorem uw7_1 : upTo (ckW 7) 10 := upTo.ext (a := 5) (m := 5) uw7_0 (by decide +kernel)
theorem uw7_2 : upTo (ckW 7) 15 := upTo.ext (a := 10) (m := 5) uw7_1 (by decide +kernel)
theorem uw7_3 : upTo (ckW 7) 20 := upTo.ext (a := 15) (m := 5) uw7_2 (by decide +kernel)
theorem uw7_4 : upTo (ckW 7) 25 := upTo.ext (a := 20) (m := 5) uw7_3 (by decide +kernel)
theorem uw7_5 : upTo (ckW 7) 30 := upTo.ext (a := 25) (m := 5) uw7_4 (by decide +kernel)
theorem uw7_6 : upTo (ckW 7) 35 := upTo.ext (a := 30) (m := 5) uw7_5 (by decide +kernel)
theorem uw7_7 : upTo (ckW 7) 40 := upTo.ext (a := 35) (m := 5) uw7_6 (by decide +kernel)
theorem uw7_8 : upTo (ckW 7) 45 := upTo.ext (a := 40) (m := 5) uw7_7 (by decide +kernel)
theorem uw7_9 : upTo (ckW 7) 50 := upTo.ext (a := 45) (m := 5) uw7_8 (by decide +kernel)
theorem uw7_10 : upTo (ckW 7) 55 := upTo.ext (a := 50) (m := 5) uw7_9 (by decide +kernel)
theorem uw7_11 : upTo (ckW 7) 60 := upTo.ext (a := 55) (m := 5) uw7_10 (by decide +kernel)
theorem uw7_12 : upTo (ckW 7) 65 := upTo.ext (a := 60) (m := 5) uw7_11 (by decide +kernel)
theorem uw7_13 : upTo (ckW 7) 70 := upTo.ext (a := 65) (m := 5) uw7_12 (by decide +kernel)
theorem uw7_14 : upTo (ckW 7) 75 := upTo.ext (a := 70) (m := 5) uw7_13 (by decide +kernel)
theorem uw7_15 : upTo (ckW 7) 80 := upTo.ext (a := 75) (m := 5) uw7_14 (by decide +kernel)
theorem uw7_16 : upTo (ckW 7) 85 := upTo.ext (a := 80) (m := 5) uw7_15 (by decide +kernel)
theorem uw7_17 : upTo (ckW 7) 90 := upTo.ext (a := 85) (m := 5) uw7_16 (by decide +kernel)
theorem uw7_18 : upTo (ckW 7) 95 := upTo.ext (a := 90) (m := 5) uw7_17 (by decide +kernel)
theorem uw7_19 : upTo (ckW 7) 100 := upTo.ext (a := 95) (m := 5) uw7_18 (by decide +kernel)
theorem uw7_20 : upTo (ckW 7) 105 := upTo.ext (a := 100) (m := 5) uw7_19 (by decide +kernel)
theorem uw7_21 : upTo (ckW 7) 110 := upTo.ext (a := 105) (m := 5) uw7_20 (by decide +kernel)
theorem uw7_22 : upTo (ckW 7) 115 := upTo.ext (a := 110) (m := 5) uw7_21 (by decide +kernel)
theorem uw7_23 : upTo (ckW 7) 120 := upTo.ext (a := 115) (m := 5) uw7_22 (by decide +kernel)
theorem uw7_24 : upTo (ckW 7) 125 := upTo.ext (a := 120) (m := 5) uw7_23 (by decide +kernel)
theorem uw7_25 : upTo (ckW 7) 130 := upTo.ext (a := 125) (m := 5) uw7_24 (by decide +kernel)
theorem uw7_26 : upTo (ckW 7) 135 := upTo.ext (a := 130) (m := 5) uw7_25 (by decide +kernel)
theorem uw7_27 : upTo (ckW 7) 140 := upTo.ext (a := 135) (m := 5) uw7_26 (by decide +kernel)
theorem uw7_28 : upTo (ckW 7) 145 := upTo.ext (a := 140) (m := 5) uw7_27 (by decide +kernel)
theorem uw7_29 : upTo (ckW 7) 150 := upTo.ext (a := 145) (m := 5) uw7_28 (by decide +kernel)
theorem uw7_30 : upTo (ckW 7) 155 := upTo.ext (a := 150) (m := 5) uw7_29 (by decide +kernel)
theorem uw7_31 : upTo (ckW 7) 160 := upTo.ext (a := 155) (m := 5) uw7_30 (by decide +kernel)
theorem uw7_32 : upTo (ckW 7) 165 := upTo.ext (a := 160) (m := 5) uw7_31 (by decide +kernel)
theorem uw7_33 : upTo (ckW 7) 170 := upTo.ext (a := 165) (m := 5) uw7_32 (by decide +kernel)
theorem uw7_34 : upTo (ckW 7) 175 := upTo.ext (a := 170) (m := 5) uw7_33 (by decide +kernel)
theorem uw7_35 : upTo (ckW 7) 180 := upTo.ext (a := 175) (m := 5) uw7_34 (by decide +kernel)
theorem uw7_36 : upTo (ckW 7) 185 := upTo.ext (a := 180) (m := 5) uw7_35 (by decide +kernel)
theorem uw7_37 : upTo (ckW 7) 190 := upTo.ext (a := 185) (m := 5) uw7_36 (by decide +kernel)
theorem uw7_38 : upTo (ckW 7) 195 := upTo.ext (a := 190) (m := 5) uw7_37 (by decide +kernel)
theorem uw7_39 : upTo (ckW 7) 200 := upTo.ext (a := 195) (m := 5) uw7_38 (by decide +kernel)
theorem uw7_40 : upTo (ckW 7) 205 := upTo.ext (a := 200) (m := 5) uw7_39 (by decide +kernel)
theorem uw7_41 : upTo (ckW 7) 210 := upTo.ext (a := 205) (m := 5) uw7_40 (by decide +kernel)
theorem uw7_42 : upTo (ckW 7) 215 := upTo.ext (a := 210) (m := 5) uw7_41 (by decide +kernel)
theorem uw7_43 : upTo (ckW 7) 220 := upTo.ext (a := 215) (m := 5) uw7_42 (by decide +kernel)
theorem uw7_44 : upTo (ckW 7) 225 := upTo.ext (a := 220) (m := 5) uw7_43 (by decide +kernel)
theorem uw7_45 : upTo (ckW 7) 230 := upTo.ext (a := 225) (m := 5) uw7_44 (by decide +kernel)
theorem uw7_46 : upTo (ckW 7) 235 := upTo.ext (a := 230) (m := 5) uw7_45 (by decide +kernel)
theorem uw7_47 : upTo (ckW 7) 240 := upTo.ext (a := 235) (m := 5) uw7_46 (by decide +kernel)
theorem uw7_48 : upTo (ckW 7) 245 := upTo.ext (a := 240) (m := 5) uw7_47 (by decide +kernel)
theorem uw7_49 : upTo (ckW 7) 250 := upTo.ext (a := 245) (m := 5) uw7_48 (by decide +kernel)
theorem uw7_50 : upTo (ckW 7) 255 := upTo.ext (a := 250) (m := 5) uw7_49 (by decide +kernel)
theorem uw7_51 : upTo (ckW 7) 260 := upTo.ext (a := 255) (m := 5) uw7_50 (by decide +kernel)
theorem uw7_52 : upTo (ckW 7) 265 := upTo.ext (a := 260) (m := 5) uw7_51 (by decide +kernel)
theorem uw7_53 : upTo (ckW 7) 270 := upTo.ext (a := 265) (m := 5) uw7_52 (by decide +kernel)
theorem uw7_54 : upTo (ckW 7) 275 := upTo.ext (a := 270) (m := 5) uw7_53 (by decide +kernel)
theorem uw7_55 : upTo (ckW 7) 280 := upTo.ext (a := 275) (m := 5) uw7_54 (by decide +kernel)
theorem uw7_56 : upTo (ckW 7) 285 := upTo.ext (a := 280) (m := 5) uw7_55 (by decide +kernel)
theorem uw7_57 : upTo (ckW 7) 290 := upTo.ext (a := 285) (m := 5) uw7_56 (by decide +kernel)
theorem uw7_58 : upTo (ckW 7) 295 := upTo.ext (a := 290) (m := 5) uw7_57 (by decide +kernel)
theorem uw7_59 : upTo (ckW 7) 300 := upTo.ext (a := 295) (m := 5) uw7_58 (by decide +kernel)
theorem uw7_60 : upTo (ckW 7) 305 := upTo.ext (a := 300) (m := 5) uw7_59 (by decide +kernel)
theorem uw7_61 : upTo (ckW 7) 310 := upTo.ext (a := 305) (m := 5) uw7_60 (by decide +kernel)
theorem uw7_62 : upTo (ckW 7) 315 := upTo.ext (a := 310) (m := 5) uw7_61 (by decide +kernel)
theorem uw7_63 : upTo (ckW 7) 320 := upTo.ext (a := 315) (m := 5) uw7_62 (by decide +kernel)
theorem uw7_64 : upTo (ckW 7) 325 := upTo.ext (a := 320) (m := 5) uw7_63 (by decide +kernel)
theorem uw7_65 : upTo (ckW 7) 330 := upTo.ext (a := 325) (m := 5) uw7_64 (by decide +kernel)
theorem uw7_66 : upTo (ckW 7) 335 := upTo.ext (a := 330) (m := 5) uw7_65 (by decide +kernel)
theorem uw7_67 : upTo (ckW 7) 340 := upTo.ext (a := 335) (m := 5) uw7_66 (by decide +kernel)
theorem uw7_68 : upTo (ckW 7) 345 := upTo.ext (a := 340) (m := 5) uw7_67 (by decide +kernel)
theorem uw7_69 : upTo (ckW 7) 350 := upTo.ext (a := 345) (m := 5) uw7_68 (by decide +kernel)
theorem uw7_70 : upTo (ckW 7) 355 := upTo.ext (a := 350) (m := 5) uw7_69 (by decide +kernel)
theorem uw7_71 : upTo (ckW 7) 360 := upTo.ext (a := 355) (m := 5) uw7_70 (by decide +kernel)
theorem uw7_72 : upTo (ckW 7) 365 := upTo.ext (a := 360) (m := 5) uw7_71 (by decide +kernel)
theorem uw7_73 : upTo (ckW 7) 370 := upTo.ext (a := 365) (m := 5) uw7_72 (by decide +kernel)
theorem uw7_74 : upTo (ckW 7) 375 := upTo.ext (a := 370) (m := 5) uw7_73 (by decide +kernel)
theorem uw7_75 : upTo (ckW 7) 380 := upTo.ext (a := 375) (m := 5) uw7_74 (by decide +kernel)
theorem uw7_76 : upTo (ckW 7) 385 := upTo.ext (a := 380) (m := 5) uw7_75 (by decide +kernel)
theorem uw7_77 : upTo (ckW 7) 390 := upTo.ext (a := 385) (m := 5) uw7_76 (by decide +kernel)
theorem uw7_78 : upTo (ckW 7) 395 := upTo.ext (a := 390) (m := 5) uw7_77 (by decide +kernel)
theorem uw7_79 : upTo (ckW 7) 400 := upTo.ext (a := 395) (m := 5) uw7_78 (by decide +kernel)
theorem uw7_80 : upTo (ckW 7) 405 := upTo.ext (a := 400) (m := 5) uw7_79 (by decide +kernel)
theorem uw7_81 : upTo (ckW 7) 410 := upTo.ext (a := 405) (m := 5) uw7_80 (by decide +kernel)
theorem uw7_82 : upTo (ckW 7) 415 := upTo.ext (a := 410) (m := 5) uw7_81 (by decide +kernel)
theorem uw7_83 : upTo (ckW 7) 420 := upTo.ext (a := 415) (m := 5) uw7_82 (by decide +kernel)
theorem uw7_84 : upTo (ckW 7) 425 := upTo.ext (a := 420) (m := 5) uw7_83 (by decide +kernel)
theorem uw7_85 : upTo (ckW 7) 429 := upTo.ext (a := 425) (m := 4) uw7_84 (by decide +kernel)
theorem uw7 : upTo (ckW 7) 429 := uw7_85
