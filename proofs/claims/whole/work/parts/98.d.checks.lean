/-! flips: the checks -/
theorem cki1 : ckI SS1 1 = true := by decide +kernel
theorem uS1_0 : upTo (ckS 1 SS1 1) 1 := upTo.ext (a := 0) (m := 1) (upTo.z (ckS 1 SS1 1)) (by decide +kernel)
theorem uS1 : upTo (ckS 1 SS1 1) 1 := uS1_0
theorem sets1 : SetsOk 1 1 SS1 := setsOk (by decide) cki1 uS1
theorem list1 : ckLs 1 1 SS1 FF1 = true := by decide +kernel
theorem fill1 : f_AR_fill1 4294967295 0 = some FF1 := by decide +kernel
theorem ff1 : ∀ y, y < 1 → ag FF1 y = 4294967296 := fun y hy => Nat.eq_of_beq_eq_true ((upTo.z (fun y => Nat.beq (ag FF1 y) 4294967296)).ext (a := 0) (m := 1) (by decide +kernel) y (by omega))
theorem uD1_0 : upTo ckD1 1 := upTo.ext (a := 0) (m := 1) (upTo.z ckD1) (by decide +kernel)
theorem uD1 : upTo ckD1 1 := uD1_0
theorem cki2 : ckI SS2 2 = true := by decide +kernel
theorem uS2_0 : upTo (ckS 2 SS2 2) 2 := upTo.ext (a := 0) (m := 2) (upTo.z (ckS 2 SS2 2)) (by decide +kernel)
theorem uS2 : upTo (ckS 2 SS2 2) 2 := uS2_0
theorem sets2 : SetsOk 2 2 SS2 := setsOk (by decide) cki2 uS2
theorem list2 : ckLs 2 2 SS2 FF2 = true := by decide +kernel
theorem fill2 : f_AR_fill2 4294967295 0 = some FF2 := by decide +kernel
theorem ff2 : ∀ y, y < 2 → ag FF2 y = 4294967296 := fun y hy => Nat.eq_of_beq_eq_true ((upTo.z (fun y => Nat.beq (ag FF2 y) 4294967296)).ext (a := 0) (m := 2) (by decide +kernel) y (by omega))
theorem uD2_0 : upTo ckD2 2 := upTo.ext (a := 0) (m := 2) (upTo.z ckD2) (by decide +kernel)
theorem uD2 : upTo ckD2 2 := uD2_0
theorem init2 : oB (f_FG2_init 0 0 0) (fun q => Nat.beq q.1 LK2) = true := by decide +kernel
theorem cki3 : ckI SS3 5 = true := by decide +kernel
theorem uS3_0 : upTo (ckS 3 SS3 5) 3 := upTo.ext (a := 0) (m := 3) (upTo.z (ckS 3 SS3 5)) (by decide +kernel)
theorem uS3_3 : upTo (ckS 3 SS3 5) 5 := upTo.ext (a := 3) (m := 2) uS3_0 (by decide +kernel)
theorem uS3 : upTo (ckS 3 SS3 5) 5 := uS3_3
theorem sets3 : SetsOk 3 5 SS3 := setsOk (by decide) cki3 uS3
theorem list3 : ckLs 3 5 SS3 FF3 = true := by decide +kernel
theorem fill3 : f_AR_fill5 4294967295 0 = some FF3 := by decide +kernel
theorem ff3 : ∀ y, y < 5 → ag FF3 y = 4294967296 := fun y hy => Nat.eq_of_beq_eq_true ((upTo.z (fun y => Nat.beq (ag FF3 y) 4294967296)).ext (a := 0) (m := 5) (by decide +kernel) y (by omega))
theorem uD3_0 : upTo ckD3 3 := upTo.ext (a := 0) (m := 3) (upTo.z ckD3) (by decide +kernel)
theorem uD3_3 : upTo ckD3 5 := upTo.ext (a := 3) (m := 2) uD3_0 (by decide +kernel)
theorem uD3 : upTo ckD3 5 := uD3_3
theorem init3 : oB (f_FG3_init 0 0 0) (fun q => Nat.beq q.1 LK3) = true := by decide +kernel
theorem cki4 : ckI SS4 14 = true := by decide +kernel
theorem uS4_0 : upTo (ckS 4 SS4 14) 3 := upTo.ext (a := 0) (m := 3) (upTo.z (ckS 4 SS4 14)) (by decide +kernel)
theorem uS4_3 : upTo (ckS 4 SS4 14) 6 := upTo.ext (a := 3) (m := 3) uS4_0 (by decide +kernel)
theorem uS4_6 : upTo (ckS 4 SS4 14) 9 := upTo.ext (a := 6) (m := 3) uS4_3 (by decide +kernel)
theorem uS4_9 : upTo (ckS 4 SS4 14) 12 := upTo.ext (a := 9) (m := 3) uS4_6 (by decide +kernel)
theorem uS4_12 : upTo (ckS 4 SS4 14) 14 := upTo.ext (a := 12) (m := 2) uS4_9 (by decide +kernel)
theorem uS4 : upTo (ckS 4 SS4 14) 14 := uS4_12
theorem sets4 : SetsOk 4 14 SS4 := setsOk (by decide) cki4 uS4
theorem list4 : ckLs 4 14 SS4 FF4 = true := by decide +kernel
theorem fill4 : f_AR_fill14 4294967295 0 = some FF4 := by decide +kernel
theorem ff4 : ∀ y, y < 14 → ag FF4 y = 4294967296 := fun y hy => Nat.eq_of_beq_eq_true ((upTo.z (fun y => Nat.beq (ag FF4 y) 4294967296)).ext (a := 0) (m := 14) (by decide +kernel) y (by omega))
theorem uD4_0 : upTo ckD4 3 := upTo.ext (a := 0) (m := 3) (upTo.z ckD4) (by decide +kernel)
theorem uD4_3 : upTo ckD4 6 := upTo.ext (a := 3) (m := 3) uD4_0 (by decide +kernel)
theorem uD4_6 : upTo ckD4 9 := upTo.ext (a := 6) (m := 3) uD4_3 (by decide +kernel)
theorem uD4_9 : upTo ckD4 12 := upTo.ext (a := 9) (m := 3) uD4_6 (by decide +kernel)
theorem uD4_12 : upTo ckD4 14 := upTo.ext (a := 12) (m := 2) uD4_9 (by decide +kernel)
theorem uD4 : upTo ckD4 14 := uD4_12
theorem init4 : oB (f_FG4_init 0 0 0) (fun q => Nat.beq q.1 LK4) = true := by decide +kernel
theorem cki5 : ckI SS5 42 = true := by decide +kernel
theorem uS5_0 : upTo (ckS 5 SS5 42) 3 := upTo.ext (a := 0) (m := 3) (upTo.z (ckS 5 SS5 42)) (by decide +kernel)
theorem uS5_3 : upTo (ckS 5 SS5 42) 6 := upTo.ext (a := 3) (m := 3) uS5_0 (by decide +kernel)
theorem uS5_6 : upTo (ckS 5 SS5 42) 9 := upTo.ext (a := 6) (m := 3) uS5_3 (by decide +kernel)
theorem uS5_9 : upTo (ckS 5 SS5 42) 12 := upTo.ext (a := 9) (m := 3) uS5_6 (by decide +kernel)
theorem uS5_12 : upTo (ckS 5 SS5 42) 15 := upTo.ext (a := 12) (m := 3) uS5_9 (by decide +kernel)
theorem uS5_15 : upTo (ckS 5 SS5 42) 18 := upTo.ext (a := 15) (m := 3) uS5_12 (by decide +kernel)
theorem uS5_18 : upTo (ckS 5 SS5 42) 21 := upTo.ext (a := 18) (m := 3) uS5_15 (by decide +kernel)
theorem uS5_21 : upTo (ckS 5 SS5 42) 24 := upTo.ext (a := 21) (m := 3) uS5_18 (by decide +kernel)
theorem uS5_24 : upTo (ckS 5 SS5 42) 27 := upTo.ext (a := 24) (m := 3) uS5_21 (by decide +kernel)
theorem uS5_27 : upTo (ckS 5 SS5 42) 30 := upTo.ext (a := 27) (m := 3) uS5_24 (by decide +kernel)
theorem uS5_30 : upTo (ckS 5 SS5 42) 33 := upTo.ext (a := 30) (m := 3) uS5_27 (by decide +kernel)
theorem uS5_33 : upTo (ckS 5 SS5 42) 36 := upTo.ext (a := 33) (m := 3) uS5_30 (by decide +kernel)
theorem uS5_36 : upTo (ckS 5 SS5 42) 39 := upTo.ext (a := 36) (m := 3) uS5_33 (by decide +kernel)
theorem uS5_39 : upTo (ckS 5 SS5 42) 42 := upTo.ext (a := 39) (m := 3) uS5_36 (by decide +kernel)
theorem uS5 : upTo (ckS 5 SS5 42) 42 := uS5_39
theorem sets5 : SetsOk 5 42 SS5 := setsOk (by decide) cki5 uS5
theorem list5 : ckLs 5 42 SS5 FF5 = true := by decide +kernel
theorem fill5 : f_AR_fill42 4294967295 0 = some FF5 := by decide +kernel
theorem ff5 : ∀ y, y < 42 → ag FF5 y = 4294967296 := fun y hy => Nat.eq_of_beq_eq_true ((upTo.z (fun y => Nat.beq (ag FF5 y) 4294967296)).ext (a := 0) (m := 42) (by decide +kernel) y (by omega))
theorem uD5_0 : upTo ckD5 1 := upTo.ext (a := 0) (m := 1) (upTo.z ckD5) (by decide +kernel)
theorem uD5_1 : upTo ckD5 2 := upTo.ext (a := 1) (m := 1) uD5_0 (by decide +kernel)
theorem uD5_2 : upTo ckD5 3 := upTo.ext (a := 2) (m := 1) uD5_1 (by decide +kernel)
theorem uD5_3 : upTo ckD5 4 := upTo.ext (a := 3) (m := 1) uD5_2 (by decide +kernel)
theorem uD5_4 : upTo ckD5 5 := upTo.ext (a := 4) (m := 1) uD5_3 (by decide +kernel)
theorem uD5_5 : upTo ckD5 6 := upTo.ext (a := 5) (m := 1) uD5_4 (by decide +kernel)
theorem uD5_6 : upTo ckD5 7 := upTo.ext (a := 6) (m := 1) uD5_5 (by decide +kernel)
theorem uD5_7 : upTo ckD5 8 := upTo.ext (a := 7) (m := 1) uD5_6 (by decide +kernel)
theorem uD5_8 : upTo ckD5 9 := upTo.ext (a := 8) (m := 1) uD5_7 (by decide +kernel)
theorem uD5_9 : upTo ckD5 10 := upTo.ext (a := 9) (m := 1) uD5_8 (by decide +kernel)
theorem uD5_10 : upTo ckD5 11 := upTo.ext (a := 10) (m := 1) uD5_9 (by decide +kernel)
theorem uD5_11 : upTo ckD5 12 := upTo.ext (a := 11) (m := 1) uD5_10 (by decide +kernel)
theorem uD5_12 : upTo ckD5 13 := upTo.ext (a := 12) (m := 1) uD5_11 (by decide +kernel)
theorem uD5_13 : upTo ckD5 14 := upTo.ext (a := 13) (m := 1) uD5_12 (by decide +kernel)
theorem uD5_14 : upTo ckD5 15 := upTo.ext (a := 14) (m := 1) uD5_13 (by decide +kernel)
theorem uD5_15 : upTo ckD5 16 := upTo.ext (a := 15) (m := 1) uD5_14 (by decide +kernel)
theorem uD5_16 : upTo ckD5 17 := upTo.ext (a := 16) (m := 1) uD5_15 (by decide +kernel)
theorem uD5_17 : upTo ckD5 18 := upTo.ext (a := 17) (m := 1) uD5_16 (by decide +kernel)
theorem uD5_18 : upTo ckD5 19 := upTo.ext (a := 18) (m := 1) uD5_17 (by decide +kernel)
theorem uD5_19 : upTo ckD5 20 := upTo.ext (a := 19) (m := 1) uD5_18 (by decide +kernel)
theorem uD5_20 : upTo ckD5 21 := upTo.ext (a := 20) (m := 1) uD5_19 (by decide +kernel)
theorem uD5_21 : upTo ckD5 22 := upTo.ext (a := 21) (m := 1) uD5_20 (by decide +kernel)
theorem uD5_22 : upTo ckD5 23 := upTo.ext (a := 22) (m := 1) uD5_21 (by decide +kernel)
theorem uD5_23 : upTo ckD5 24 := upTo.ext (a := 23) (m := 1) uD5_22 (by decide +kernel)
theorem uD5_24 : upTo ckD5 25 := upTo.ext (a := 24) (m := 1) uD5_23 (by decide +kernel)
theorem uD5_25 : upTo ckD5 26 := upTo.ext (a := 25) (m := 1) uD5_24 (by decide +kernel)
theorem uD5_26 : upTo ckD5 27 := upTo.ext (a := 26) (m := 1) uD5_25 (by decide +kernel)
theorem uD5_27 : upTo ckD5 28 := upTo.ext (a := 27) (m := 1) uD5_26 (by decide +kernel)
theorem uD5_28 : upTo ckD5 29 := upTo.ext (a := 28) (m := 1) uD5_27 (by decide +kernel)
theorem uD5_29 : upTo ckD5 30 := upTo.ext (a := 29) (m := 1) uD5_28 (by decide +kernel)
theorem uD5_30 : upTo ckD5 31 := upTo.ext (a := 30) (m := 1) uD5_29 (by decide +kernel)
theorem uD5_31 : upTo ckD5 32 := upTo.ext (a := 31) (m := 1) uD5_30 (by decide +kernel)
theorem uD5_32 : upTo ckD5 33 := upTo.ext (a := 32) (m := 1) uD5_31 (by decide +kernel)
theorem uD5_33 : upTo ckD5 34 := upTo.ext (a := 33) (m := 1) uD5_32 (by decide +kernel)
theorem uD5_34 : upTo ckD5 35 := upTo.ext (a := 34) (m := 1) uD5_33 (by decide +kernel)
theorem uD5_35 : upTo ckD5 36 := upTo.ext (a := 35) (m := 1) uD5_34 (by decide +kernel)
theorem uD5_36 : upTo ckD5 37 := upTo.ext (a := 36) (m := 1) uD5_35 (by decide +kernel)
theorem uD5_37 : upTo ckD5 38 := upTo.ext (a := 37) (m := 1) uD5_36 (by decide +kernel)
theorem uD5_38 : upTo ckD5 39 := upTo.ext (a := 38) (m := 1) uD5_37 (by decide +kernel)
theorem uD5_39 : upTo ckD5 40 := upTo.ext (a := 39) (m := 1) uD5_38 (by decide +kernel)
theorem uD5_40 : upTo ckD5 41 := upTo.ext (a := 40) (m := 1) uD5_39 (by decide +kernel)
theorem uD5_41 : upTo ckD5 42 := upTo.ext (a := 41) (m := 1) uD5_40 (by decide +kernel)
theorem uD5 : upTo ckD5 42 := uD5_41
theorem init5 : oB (f_FG5_init 0 0 0) (fun q => Nat.beq q.1 LK5) = true := by decide +kernel
