section IVB
variable {I : Nat → Int → Int} {P : Nat → Option Nat} {c c0 c1 : Nat} {i v : Int}
theorem iv_wTA36 {t : Nat} (h : iv_A I P) (ht : t < 4) (hv : -2147483648 ≤ v ∧ v ≤ 2147483647) : iv_A (lf_up I (36 + 7 * t) i v) P := by
  match t, ht with
  | 0, _ => exact iv_wr h rfl hv
  | 1, _ => exact iv_wr h rfl hv
  | 2, _ => exact iv_wr h rfl hv
  | 3, _ => exact iv_wr h rfl hv
theorem iv_flT36 {t : Nat} {n : Int} (h : iv_A I P) (ht : t < 4) (hv : -2147483648 ≤ v ∧ v ≤ 2147483647) : iv_A (lf_fl I (36 + 7 * t) n v) P := by
  match t, ht with
  | 0, _ => exact iv_fill h rfl (fun _ => hv)
  | 1, _ => exact iv_fill h rfl (fun _ => hv)
  | 2, _ => exact iv_fill h rfl (fun _ => hv)
  | 3, _ => exact iv_fill h rfl (fun _ => hv)
theorem iv_wTA37 {t : Nat} (h : iv_A I P) (ht : t < 4) (hv : -2147483648 ≤ v ∧ v ≤ 2147483647) : iv_A (lf_up I (37 + 7 * t) i v) P := by
  match t, ht with
  | 0, _ => exact iv_wr h rfl hv
  | 1, _ => exact iv_wr h rfl hv
  | 2, _ => exact iv_wr h rfl hv
  | 3, _ => exact iv_wr h rfl hv
theorem iv_flT37 {t : Nat} {n : Int} (h : iv_A I P) (ht : t < 4) (hv : -2147483648 ≤ v ∧ v ≤ 2147483647) : iv_A (lf_fl I (37 + 7 * t) n v) P := by
  match t, ht with
  | 0, _ => exact iv_fill h rfl (fun _ => hv)
  | 1, _ => exact iv_fill h rfl (fun _ => hv)
  | 2, _ => exact iv_fill h rfl (fun _ => hv)
  | 3, _ => exact iv_fill h rfl (fun _ => hv)
theorem iv_wTA38 {t : Nat} (h : iv_A I P) (ht : t < 4) (hv : -2147483648 ≤ v ∧ v ≤ 2147483647) : iv_A (lf_up I (38 + 7 * t) i v) P := by
  match t, ht with
  | 0, _ => exact iv_wr h rfl hv
  | 1, _ => exact iv_wr h rfl hv
  | 2, _ => exact iv_wr h rfl hv
  | 3, _ => exact iv_wr h rfl hv
theorem iv_flT38 {t : Nat} {n : Int} (h : iv_A I P) (ht : t < 4) (hv : -2147483648 ≤ v ∧ v ≤ 2147483647) : iv_A (lf_fl I (38 + 7 * t) n v) P := by
  match t, ht with
  | 0, _ => exact iv_fill h rfl (fun _ => hv)
  | 1, _ => exact iv_fill h rfl (fun _ => hv)
  | 2, _ => exact iv_fill h rfl (fun _ => hv)
  | 3, _ => exact iv_fill h rfl (fun _ => hv)
theorem iv_wTA39 {t : Nat} (h : iv_A I P) (ht : t < 4) (hv : -2147483648 ≤ v ∧ v ≤ 2147483647) : iv_A (lf_up I (39 + 7 * t) i v) P := by
  match t, ht with
  | 0, _ => exact iv_wr h rfl hv
  | 1, _ => exact iv_wr h rfl hv
  | 2, _ => exact iv_wr h rfl hv
  | 3, _ => exact iv_wr h rfl hv
theorem iv_flT39 {t : Nat} {n : Int} (h : iv_A I P) (ht : t < 4) (hv : -2147483648 ≤ v ∧ v ≤ 2147483647) : iv_A (lf_fl I (39 + 7 * t) n v) P := by
  match t, ht with
  | 0, _ => exact iv_fill h rfl (fun _ => hv)
  | 1, _ => exact iv_fill h rfl (fun _ => hv)
  | 2, _ => exact iv_fill h rfl (fun _ => hv)
  | 3, _ => exact iv_fill h rfl (fun _ => hv)
theorem iv_wTA40 {t : Nat} (h : iv_A I P) (ht : t < 4) (hv : -2147483648 ≤ v ∧ v ≤ 2147483647) : iv_A (lf_up I (40 + 7 * t) i v) P := by
  match t, ht with
  | 0, _ => exact iv_wr h rfl hv
  | 1, _ => exact iv_wr h rfl hv
  | 2, _ => exact iv_wr h rfl hv
  | 3, _ => exact iv_wr h rfl hv
theorem iv_flT40 {t : Nat} {n : Int} (h : iv_A I P) (ht : t < 4) (hv : -2147483648 ≤ v ∧ v ≤ 2147483647) : iv_A (lf_fl I (40 + 7 * t) n v) P := by
  match t, ht with
  | 0, _ => exact iv_fill h rfl (fun _ => hv)
  | 1, _ => exact iv_fill h rfl (fun _ => hv)
  | 2, _ => exact iv_fill h rfl (fun _ => hv)
  | 3, _ => exact iv_fill h rfl (fun _ => hv)
theorem iv_wTA41 {t : Nat} (h : iv_A I P) (ht : t < 4) (hv : -2147483648 ≤ v ∧ v ≤ 2147483647) : iv_A (lf_up I (41 + 7 * t) i v) P := by
  match t, ht with
  | 0, _ => exact iv_wr h rfl hv
  | 1, _ => exact iv_wr h rfl hv
  | 2, _ => exact iv_wr h rfl hv
  | 3, _ => exact iv_wr h rfl hv
theorem iv_flT41 {t : Nat} {n : Int} (h : iv_A I P) (ht : t < 4) (hv : -2147483648 ≤ v ∧ v ≤ 2147483647) : iv_A (lf_fl I (41 + 7 * t) n v) P := by
  match t, ht with
  | 0, _ => exact iv_fill h rfl (fun _ => hv)
  | 1, _ => exact iv_fill h rfl (fun _ => hv)
  | 2, _ => exact iv_fill h rfl (fun _ => hv)
  | 3, _ => exact iv_fill h rfl (fun _ => hv)
theorem iv_r2 (h : iv_A I P) (i : Int) : 0 ≤ I 2 i ∧ I 2 i ≤ 3 := h.1 2 i
theorem iv_r3 (h : iv_A I P) (i : Int) : 0 ≤ I 3 i ∧ I 3 i ≤ 99 := h.1 3 i
theorem iv_r4 (h : iv_A I P) (i : Int) : 0 ≤ I 4 i ∧ I 4 i ≤ 11 := h.1 4 i
theorem iv_r5 (h : iv_A I P) (i : Int) : 0 ≤ I 5 i ∧ I 5 i ≤ 11 := h.1 5 i
theorem iv_r6 (h : iv_A I P) (i : Int) : 0 ≤ I 6 i ∧ I 6 i ≤ 1 := h.1 6 i
theorem iv_r7 (h : iv_A I P) (i : Int) : 0 ≤ I 7 i ∧ I 7 i ≤ 9 := h.1 7 i
theorem iv_r8 (h : iv_A I P) (i : Int) : 0 ≤ I 8 i ∧ I 8 i ≤ 1 := h.1 8 i
theorem iv_r9 (h : iv_A I P) (i : Int) : 0 ≤ I 9 i ∧ I 9 i ≤ 1 := h.1 9 i
theorem iv_r10 (h : iv_A I P) (i : Int) : 0 ≤ I 10 i ∧ I 10 i ≤ 11 := h.1 10 i
theorem iv_r11 (h : iv_A I P) (i : Int) : 0 ≤ I 11 i ∧ I 11 i ≤ 15 := h.1 11 i
theorem iv_r12 (h : iv_A I P) (i : Int) : 0 ≤ I 12 i ∧ I 12 i ≤ 4 := h.1 12 i
theorem iv_r13 (h : iv_A I P) (i : Int) : 0 ≤ I 13 i ∧ I 13 i ≤ 1000 := h.1 13 i
theorem iv_r14 (h : iv_A I P) (i : Int) : 0 ≤ I 14 i ∧ I 14 i ≤ 1000 := h.1 14 i
theorem iv_r17 (h : iv_A I P) (i : Int) : (-1) ≤ I 17 i ∧ I 17 i ≤ 11 := h.1 17 i
theorem iv_r18 (h : iv_A I P) (i : Int) : (-1) ≤ I 18 i ∧ I 18 i ≤ 11 := h.1 18 i
theorem iv_r24 (h : iv_A I P) (i : Int) : 0 ≤ I 24 i ∧ I 24 i ≤ 6 := h.1 24 i
theorem iv_r32 (h : iv_A I P) (i : Int) : 0 ≤ I 32 i ∧ I 32 i ≤ 255 := h.1 32 i
theorem iv_r33 (h : iv_A I P) (i : Int) : (-1) ≤ I 33 i ∧ I 33 i ≤ 7 := h.1 33 i
theorem iv_r70 (h : iv_A I P) (i : Int) : 0 ≤ I 70 i ∧ I 70 i ≤ 155 := h.1 70 i
theorem iv_r76 (h : iv_A I P) (i : Int) : 0 ≤ I 76 i ∧ I 76 i ≤ 5 := h.1 76 i
theorem iv_r77 (h : iv_A I P) (i : Int) : 0 ≤ I 77 i ∧ I 77 i ≤ 5 := h.1 77 i
theorem iv_r81 (h : iv_A I P) (i : Int) : (-1) ≤ I 81 i ∧ I 81 i ≤ 11 := h.1 81 i
theorem iv_r82 (h : iv_A I P) (i : Int) : (-1) ≤ I 82 i ∧ I 82 i ≤ 11 := h.1 82 i
theorem iv_r88 (h : iv_A I P) (i : Int) : 0 ≤ I 88 i ∧ I 88 i ≤ 6 := h.1 88 i
theorem iv_r99 (h : iv_A I P) (i : Int) : 0 ≤ I 99 i ∧ I 99 i ≤ 255 := h.1 99 i
theorem iv_r100 (h : iv_A I P) (i : Int) : 0 ≤ I 100 i ∧ I 100 i ≤ 45 := h.1 100 i
theorem iv_r101 (h : iv_A I P) (i : Int) : 0 ≤ I 101 i ∧ I 101 i ≤ 25 := h.1 101 i
theorem iv_r102 (h : iv_A I P) (i : Int) : (-1) ≤ I 102 i ∧ I 102 i ≤ 79 := h.1 102 i
theorem iv_r103 (h : iv_A I P) (i : Int) : (-1) ≤ I 103 i ∧ I 103 i ≤ 79 := h.1 103 i
theorem iv_r107 (h : iv_A I P) (i : Int) : 0 ≤ I 107 i ∧ I 107 i ≤ 1 := h.1 107 i
theorem iv_r108 (h : iv_A I P) (i : Int) : 0 ≤ I 108 i ∧ I 108 i ≤ 1000 := h.1 108 i
theorem iv_r111 (h : iv_A I P) (i : Int) : 0 ≤ I 111 i ∧ I 111 i ≤ 1 := h.1 111 i
theorem iv_r112 (h : iv_A I P) (i : Int) : 0 ≤ I 112 i ∧ I 112 i ≤ 155 := h.1 112 i
theorem iv_r113 (h : iv_A I P) (i : Int) : 0 ≤ I 113 i ∧ I 113 i ≤ 5 := h.1 113 i
theorem iv_r114 (h : iv_A I P) (i : Int) : 0 ≤ I 114 i ∧ I 114 i ≤ 11 := h.1 114 i
theorem iv_r116 (h : iv_A I P) (i : Int) : 0 ≤ I 116 i ∧ I 116 i ≤ 5 := h.1 116 i
theorem iv_r117 (h : iv_A I P) (i : Int) : 0 ≤ I 117 i ∧ I 117 i ≤ 5 := h.1 117 i
theorem iv_r118 (h : iv_A I P) (i : Int) : 0 ≤ I 118 i ∧ I 118 i ≤ 3 := h.1 118 i
theorem iv_r115 (h : iv_A I P) (i : Int) : 0 ≤ I 115 i ∧ I 115 i ≤ 1000 := h.1 115 i
theorem iv_r119 (h : iv_A I P) (i : Int) : 0 ≤ I 119 i ∧ I 119 i ≤ 1000 := h.1 119 i
theorem iv_r0_11 (h : iv_A I P) : 0 ≤ I 0 11 ∧ I 0 11 ≤ 4 := h.1 0 11
theorem iv_r0_12 (h : iv_A I P) : (-1) ≤ I 0 12 ∧ I 0 12 ≤ 3 := h.1 0 12
theorem iv_r1_0 (h : iv_A I P) : 0 ≤ I 1 0 ∧ I 1 0 ≤ 12 := h.1 1 0
theorem iv_r1_1 (h : iv_A I P) : 0 ≤ I 1 1 ∧ I 1 1 ≤ 16 := h.1 1 1
theorem iv_r1_2 (h : iv_A I P) : 0 ≤ I 1 2 ∧ I 1 2 ≤ 6 := h.1 1 2
theorem iv_r22_2 (h : iv_A I P) : 0 ≤ I 22 2 ∧ I 22 2 ≤ 29 := h.1 22 2
theorem iv_r22_3 (h : iv_A I P) : 0 ≤ I 22 3 ∧ I 22 3 ≤ 30 := h.1 22 3
theorem iv_r25_2 (h : iv_A I P) : 0 ≤ I 25 2 ∧ I 25 2 ≤ 6 := h.1 25 2
theorem iv_r31_1 (h : iv_A I P) : 0 ≤ I 31 1 ∧ I 31 1 ≤ 300 := h.1 31 1
theorem iv_r31_6 (h : iv_A I P) : 0 ≤ I 31 6 ∧ I 31 6 ≤ 2 := h.1 31 6
theorem iv_r31_7 (h : iv_A I P) : 0 ≤ I 31 7 ∧ I 31 7 ≤ 300 := h.1 31 7
theorem iv_r31_8 (h : iv_A I P) : 0 ≤ I 31 8 ∧ I 31 8 ≤ 300 := h.1 31 8
theorem iv_r31_9 (h : iv_A I P) : 0 ≤ I 31 9 ∧ I 31 9 ≤ 300 := h.1 31 9
theorem iv_r63_6 (h : iv_A I P) : 0 ≤ I 63 6 ∧ I 63 6 ≤ 300 := h.1 63 6
theorem iv_r74_5 (h : iv_A I P) : 0 ≤ I 74 5 ∧ I 74 5 ≤ 6 := h.1 74 5
theorem iv_r78_0 (h : iv_A I P) : 0 ≤ I 78 0 ∧ I 78 0 ≤ 12 := h.1 78 0
theorem iv_r78_1 (h : iv_A I P) : 0 ≤ I 78 1 ∧ I 78 1 ≤ 16 := h.1 78 1
theorem iv_r78_2 (h : iv_A I P) : 0 ≤ I 78 2 ∧ I 78 2 ≤ 6 := h.1 78 2
theorem iv_r78_3 (h : iv_A I P) : 0 ≤ I 78 3 ∧ I 78 3 ≤ 4 := h.1 78 3
theorem iv_r78_4 (h : iv_A I P) : (-1) ≤ I 78 4 ∧ I 78 4 ≤ 3 := h.1 78 4
theorem iv_r86_2 (h : iv_A I P) : 0 ≤ I 86 2 ∧ I 86 2 ≤ 29 := h.1 86 2
theorem iv_r86_3 (h : iv_A I P) : 0 ≤ I 86 3 ∧ I 86 3 ≤ 30 := h.1 86 3
theorem iv_r89_2 (h : iv_A I P) : 0 ≤ I 89 2 ∧ I 89 2 ≤ 6 := h.1 89 2
theorem iv_r95_4 (h : iv_A I P) : 0 ≤ I 95 4 ∧ I 95 4 ≤ 300 := h.1 95 4
theorem iv_r95_7 (h : iv_A I P) : 0 ≤ I 95 7 ∧ I 95 7 ≤ 300 := h.1 95 7
theorem iv_r95_8 (h : iv_A I P) : 0 ≤ I 95 8 ∧ I 95 8 ≤ 300 := h.1 95 8
theorem iv_r95_12 (h : iv_A I P) : 0 ≤ I 95 12 ∧ I 95 12 ≤ 2115 := h.1 95 12
theorem iv_r95_13 (h : iv_A I P) : 0 ≤ I 95 13 ∧ I 95 13 ≤ 304 := h.1 95 13
theorem iv_r95_14 (h : iv_A I P) : 0 ≤ I 95 14 ∧ I 95 14 ≤ 12 := h.1 95 14
theorem iv_r95_19 (h : iv_A I P) : 0 ≤ I 95 19 ∧ I 95 19 ≤ 160 := h.1 95 19
theorem iv_r95_20 (h : iv_A I P) : 0 ≤ I 95 20 ∧ I 95 20 ≤ 8 := h.1 95 20
theorem iv_r95_21 (h : iv_A I P) : 0 ≤ I 95 21 ∧ I 95 21 ≤ 8 := h.1 95 21
theorem iv_r95_22 (h : iv_A I P) : 0 ≤ I 95 22 ∧ I 95 22 ≤ 80 := h.1 95 22
theorem iv_r95_23 (h : iv_A I P) : 0 ≤ I 95 23 ∧ I 95 23 ≤ 1 := h.1 95 23
theorem iv_r35_1 (h : iv_A I P) : 0 ≤ I 35 1 ∧ I 35 1 ≤ 300 := h.1 35 1
theorem iv_r35_7 (h : iv_A I P) : 0 ≤ I 35 7 ∧ I 35 7 ≤ 24 := h.1 35 7
theorem iv_r42_1 (h : iv_A I P) : 0 ≤ I 42 1 ∧ I 42 1 ≤ 300 := h.1 42 1
theorem iv_r42_7 (h : iv_A I P) : 0 ≤ I 42 7 ∧ I 42 7 ≤ 24 := h.1 42 7
theorem iv_r49_1 (h : iv_A I P) : 0 ≤ I 49 1 ∧ I 49 1 ≤ 300 := h.1 49 1
theorem iv_r49_7 (h : iv_A I P) : 0 ≤ I 49 7 ∧ I 49 7 ≤ 24 := h.1 49 7
theorem iv_r56_1 (h : iv_A I P) : 0 ≤ I 56 1 ∧ I 56 1 ≤ 300 := h.1 56 1
theorem iv_r56_7 (h : iv_A I P) : 0 ≤ I 56 7 ∧ I 56 7 ≤ 24 := h.1 56 7
theorem iv_w0_11 (h : iv_A I P) (hv : 0 ≤ v ∧ v ≤ 4) : iv_A (lf_up I 0 11 v) P := iv_wr h rfl hv
theorem iv_w0_12 (h : iv_A I P) (hv : (-1) ≤ v ∧ v ≤ 3) : iv_A (lf_up I 0 12 v) P := iv_wr h rfl hv
theorem iv_w1_0 (h : iv_A I P) (hv : 0 ≤ v ∧ v ≤ 12) : iv_A (lf_up I 1 0 v) P := iv_wr h rfl hv
theorem iv_w1_1 (h : iv_A I P) (hv : 0 ≤ v ∧ v ≤ 16) : iv_A (lf_up I 1 1 v) P := iv_wr h rfl hv
theorem iv_w1_2 (h : iv_A I P) (hv : 0 ≤ v ∧ v ≤ 6) : iv_A (lf_up I 1 2 v) P := iv_wr h rfl hv
theorem iv_w10 (h : iv_A I P) (hv : 0 ≤ v ∧ v ≤ 11) : iv_A (lf_up I 10 i v) P := iv_wr h rfl hv
theorem iv_w100 (h : iv_A I P) (hv : 0 ≤ v ∧ v ≤ 45) : iv_A (lf_up I 100 i v) P := iv_wr h rfl hv
theorem iv_w101 (h : iv_A I P) (hv : 0 ≤ v ∧ v ≤ 25) : iv_A (lf_up I 101 i v) P := iv_wr h rfl hv
theorem iv_w102 (h : iv_A I P) (hv : (-1) ≤ v ∧ v ≤ 79) : iv_A (lf_up I 102 i v) P := iv_wr h rfl hv
theorem iv_w103 (h : iv_A I P) (hv : (-1) ≤ v ∧ v ≤ 79) : iv_A (lf_up I 103 i v) P := iv_wr h rfl hv
theorem iv_w104 (h : iv_A I P) (hv : (-2147483648) ≤ v ∧ v ≤ 2147483647) : iv_A (lf_up I 104 i v) P := iv_wr h rfl hv
theorem iv_w107 (h : iv_A I P) (hv : 0 ≤ v ∧ v ≤ 1) : iv_A (lf_up I 107 i v) P := iv_wr h rfl hv
theorem iv_w108 (h : iv_A I P) (hv : 0 ≤ v ∧ v ≤ 1000) : iv_A (lf_up I 108 i v) P := iv_wr h rfl hv
theorem iv_w11 (h : iv_A I P) (hv : 0 ≤ v ∧ v ≤ 15) : iv_A (lf_up I 11 i v) P := iv_wr h rfl hv
theorem iv_w111 (h : iv_A I P) (hv : 0 ≤ v ∧ v ≤ 1) : iv_A (lf_up I 111 i v) P := iv_wr h rfl hv
theorem iv_w112 (h : iv_A I P) (hv : 0 ≤ v ∧ v ≤ 155) : iv_A (lf_up I 112 i v) P := iv_wr h rfl hv
theorem iv_w113 (h : iv_A I P) (hv : 0 ≤ v ∧ v ≤ 5) : iv_A (lf_up I 113 i v) P := iv_wr h rfl hv
theorem iv_w114 (h : iv_A I P) (hv : 0 ≤ v ∧ v ≤ 11) : iv_A (lf_up I 114 i v) P := iv_wr h rfl hv
theorem iv_w115 (h : iv_A I P) (hv : 0 ≤ v ∧ v ≤ 1000) : iv_A (lf_up I 115 i v) P := iv_wr h rfl hv
theorem iv_w116 (h : iv_A I P) (hv : 0 ≤ v ∧ v ≤ 5) : iv_A (lf_up I 116 i v) P := iv_wr h rfl hv
theorem iv_w117 (h : iv_A I P) (hv : 0 ≤ v ∧ v ≤ 5) : iv_A (lf_up I 117 i v) P := iv_wr h rfl hv
theorem iv_w118 (h : iv_A I P) (hv : 0 ≤ v ∧ v ≤ 3) : iv_A (lf_up I 118 i v) P := iv_wr h rfl hv
theorem iv_w119 (h : iv_A I P) (hv : 0 ≤ v ∧ v ≤ 1000) : iv_A (lf_up I 119 i v) P := iv_wr h rfl hv
theorem iv_w12 (h : iv_A I P) (hv : 0 ≤ v ∧ v ≤ 4) : iv_A (lf_up I 12 i v) P := iv_wr h rfl hv
theorem iv_w13 (h : iv_A I P) (hv : 0 ≤ v ∧ v ≤ 1000) : iv_A (lf_up I 13 i v) P := iv_wr h rfl hv
theorem iv_w14 (h : iv_A I P) (hv : 0 ≤ v ∧ v ≤ 1000) : iv_A (lf_up I 14 i v) P := iv_wr h rfl hv
theorem iv_w15_6 (h : iv_A I P) (hv : (-2147483648) ≤ v ∧ v ≤ 2147483647) : iv_A (lf_up I 15 6 v) P := iv_wr h rfl hv
theorem iv_w15_7 (h : iv_A I P) (hv : (-2147483648) ≤ v ∧ v ≤ 2147483647) : iv_A (lf_up I 15 7 v) P := iv_wr h rfl hv
theorem iv_w15_8 (h : iv_A I P) (hv : (-2147483648) ≤ v ∧ v ≤ 2147483647) : iv_A (lf_up I 15 8 v) P := iv_wr h rfl hv
theorem iv_w18 (h : iv_A I P) (hv : (-1) ≤ v ∧ v ≤ 11) : iv_A (lf_up I 18 i v) P := iv_wr h rfl hv
theorem iv_w19 (h : iv_A I P) (hv : (-2147483648) ≤ v ∧ v ≤ 2147483647) : iv_A (lf_up I 19 i v) P := iv_wr h rfl hv
theorem iv_w2 (h : iv_A I P) (hv : 0 ≤ v ∧ v ≤ 3) : iv_A (lf_up I 2 i v) P := iv_wr h rfl hv
theorem iv_w20 (h : iv_A I P) (hv : (-2147483648) ≤ v ∧ v ≤ 2147483647) : iv_A (lf_up I 20 i v) P := iv_wr h rfl hv
theorem iv_w21 (h : iv_A I P) (hv : (-2147483648) ≤ v ∧ v ≤ 2147483647) : iv_A (lf_up I 21 i v) P := iv_wr h rfl hv
theorem iv_w22_2 (h : iv_A I P) (hv : 0 ≤ v ∧ v ≤ 29) : iv_A (lf_up I 22 2 v) P := iv_wr h rfl hv
theorem iv_w22_3 (h : iv_A I P) (hv : 0 ≤ v ∧ v ≤ 30) : iv_A (lf_up I 22 3 v) P := iv_wr h rfl hv
theorem iv_w24 (h : iv_A I P) (hv : 0 ≤ v ∧ v ≤ 6) : iv_A (lf_up I 24 i v) P := iv_wr h rfl hv
theorem iv_w25_2 (h : iv_A I P) (hv : 0 ≤ v ∧ v ≤ 6) : iv_A (lf_up I 25 2 v) P := iv_wr h rfl hv
theorem iv_w26 (h : iv_A I P) (hv : (-2147483648) ≤ v ∧ v ≤ 2147483647) : iv_A (lf_up I 26 i v) P := iv_wr h rfl hv
theorem iv_w27 (h : iv_A I P) (hv : (-2147483648) ≤ v ∧ v ≤ 2147483647) : iv_A (lf_up I 27 i v) P := iv_wr h rfl hv
theorem iv_w28 (h : iv_A I P) (hv : (-2147483648) ≤ v ∧ v ≤ 2147483647) : iv_A (lf_up I 28 i v) P := iv_wr h rfl hv
theorem iv_w29 (h : iv_A I P) (hv : (-2147483648) ≤ v ∧ v ≤ 2147483647) : iv_A (lf_up I 29 i v) P := iv_wr h rfl hv
theorem iv_w3 (h : iv_A I P) (hv : 0 ≤ v ∧ v ≤ 99) : iv_A (lf_up I 3 i v) P := iv_wr h rfl hv
theorem iv_w30 (h : iv_A I P) (hv : (-2147483648) ≤ v ∧ v ≤ 2147483647) : iv_A (lf_up I 30 i v) P := iv_wr h rfl hv
theorem iv_w31_1 (h : iv_A I P) (hv : 0 ≤ v ∧ v ≤ 300) : iv_A (lf_up I 31 1 v) P := iv_wr h rfl hv
theorem iv_w31_10 (h : iv_A I P) (hv : (-2147483648) ≤ v ∧ v ≤ 2147483647) : iv_A (lf_up I 31 10 v) P := iv_wr h rfl hv
theorem iv_w31_2 (h : iv_A I P) (hv : (-2147483648) ≤ v ∧ v ≤ 2147483647) : iv_A (lf_up I 31 2 v) P := iv_wr h rfl hv
theorem iv_w31_3 (h : iv_A I P) (hv : (-2147483648) ≤ v ∧ v ≤ 2147483647) : iv_A (lf_up I 31 3 v) P := iv_wr h rfl hv
theorem iv_w31_6 (h : iv_A I P) (hv : 0 ≤ v ∧ v ≤ 2) : iv_A (lf_up I 31 6 v) P := iv_wr h rfl hv
theorem iv_w31_7 (h : iv_A I P) (hv : 0 ≤ v ∧ v ≤ 300) : iv_A (lf_up I 31 7 v) P := iv_wr h rfl hv
theorem iv_w31_8 (h : iv_A I P) (hv : 0 ≤ v ∧ v ≤ 300) : iv_A (lf_up I 31 8 v) P := iv_wr h rfl hv
theorem iv_w31_9 (h : iv_A I P) (hv : 0 ≤ v ∧ v ≤ 300) : iv_A (lf_up I 31 9 v) P := iv_wr h rfl hv
theorem iv_w32 (h : iv_A I P) (hv : 0 ≤ v ∧ v ≤ 255) : iv_A (lf_up I 32 i v) P := iv_wr h rfl hv
theorem iv_w33 (h : iv_A I P) (hv : (-1) ≤ v ∧ v ≤ 7) : iv_A (lf_up I 33 i v) P := iv_wr h rfl hv
theorem iv_w4 (h : iv_A I P) (hv : 0 ≤ v ∧ v ≤ 11) : iv_A (lf_up I 4 i v) P := iv_wr h rfl hv
theorem iv_w5 (h : iv_A I P) (hv : 0 ≤ v ∧ v ≤ 11) : iv_A (lf_up I 5 i v) P := iv_wr h rfl hv
theorem iv_w6 (h : iv_A I P) (hv : 0 ≤ v ∧ v ≤ 1) : iv_A (lf_up I 6 i v) P := iv_wr h rfl hv
theorem iv_w63_6 (h : iv_A I P) (hv : 0 ≤ v ∧ v ≤ 300) : iv_A (lf_up I 63 6 v) P := iv_wr h rfl hv
theorem iv_w64 (h : iv_A I P) (hv : (-2147483648) ≤ v ∧ v ≤ 2147483647) : iv_A (lf_up I 64 i v) P := iv_wr h rfl hv
theorem iv_w65 (h : iv_A I P) (hv : (-2147483648) ≤ v ∧ v ≤ 2147483647) : iv_A (lf_up I 65 i v) P := iv_wr h rfl hv
theorem iv_w66 (h : iv_A I P) (hv : (-2147483648) ≤ v ∧ v ≤ 2147483647) : iv_A (lf_up I 66 i v) P := iv_wr h rfl hv
theorem iv_w68_10 (h : iv_A I P) (hv : (-2147483648) ≤ v ∧ v ≤ 2147483647) : iv_A (lf_up I 68 10 v) P := iv_wr h rfl hv
theorem iv_w68_11 (h : iv_A I P) (hv : (-2147483648) ≤ v ∧ v ≤ 2147483647) : iv_A (lf_up I 68 11 v) P := iv_wr h rfl hv
theorem iv_w68_8 (h : iv_A I P) (hv : (-2147483648) ≤ v ∧ v ≤ 2147483647) : iv_A (lf_up I 68 8 v) P := iv_wr h rfl hv
theorem iv_w68_9 (h : iv_A I P) (hv : (-2147483648) ≤ v ∧ v ≤ 2147483647) : iv_A (lf_up I 68 9 v) P := iv_wr h rfl hv
theorem iv_w69 (h : iv_A I P) (hv : (-2147483648) ≤ v ∧ v ≤ 2147483647) : iv_A (lf_up I 69 i v) P := iv_wr h rfl hv
theorem iv_w7 (h : iv_A I P) (hv : 0 ≤ v ∧ v ≤ 9) : iv_A (lf_up I 7 i v) P := iv_wr h rfl hv
theorem iv_w70 (h : iv_A I P) (hv : 0 ≤ v ∧ v ≤ 155) : iv_A (lf_up I 70 i v) P := iv_wr h rfl hv
theorem iv_w71 (h : iv_A I P) (hv : (-2147483648) ≤ v ∧ v ≤ 2147483647) : iv_A (lf_up I 71 i v) P := iv_wr h rfl hv
theorem iv_w74_5 (h : iv_A I P) (hv : 0 ≤ v ∧ v ≤ 6) : iv_A (lf_up I 74 5 v) P := iv_wr h rfl hv
theorem iv_w74_6 (h : iv_A I P) (hv : (-2147483648) ≤ v ∧ v ≤ 2147483647) : iv_A (lf_up I 74 6 v) P := iv_wr h rfl hv
theorem iv_w74_7 (h : iv_A I P) (hv : (-2147483648) ≤ v ∧ v ≤ 2147483647) : iv_A (lf_up I 74 7 v) P := iv_wr h rfl hv
theorem iv_w75 (h : iv_A I P) (hv : (-2147483648) ≤ v ∧ v ≤ 2147483647) : iv_A (lf_up I 75 i v) P := iv_wr h rfl hv
theorem iv_w76 (h : iv_A I P) (hv : 0 ≤ v ∧ v ≤ 5) : iv_A (lf_up I 76 i v) P := iv_wr h rfl hv
theorem iv_w78_0 (h : iv_A I P) (hv : 0 ≤ v ∧ v ≤ 12) : iv_A (lf_up I 78 0 v) P := iv_wr h rfl hv
theorem iv_w78_1 (h : iv_A I P) (hv : 0 ≤ v ∧ v ≤ 16) : iv_A (lf_up I 78 1 v) P := iv_wr h rfl hv
theorem iv_w78_2 (h : iv_A I P) (hv : 0 ≤ v ∧ v ≤ 6) : iv_A (lf_up I 78 2 v) P := iv_wr h rfl hv
theorem iv_w78_3 (h : iv_A I P) (hv : 0 ≤ v ∧ v ≤ 4) : iv_A (lf_up I 78 3 v) P := iv_wr h rfl hv
theorem iv_w78_4 (h : iv_A I P) (hv : (-1) ≤ v ∧ v ≤ 3) : iv_A (lf_up I 78 4 v) P := iv_wr h rfl hv
theorem iv_w79_6 (h : iv_A I P) (hv : (-2147483648) ≤ v ∧ v ≤ 2147483647) : iv_A (lf_up I 79 6 v) P := iv_wr h rfl hv
theorem iv_w79_7 (h : iv_A I P) (hv : (-2147483648) ≤ v ∧ v ≤ 2147483647) : iv_A (lf_up I 79 7 v) P := iv_wr h rfl hv
theorem iv_w79_8 (h : iv_A I P) (hv : (-2147483648) ≤ v ∧ v ≤ 2147483647) : iv_A (lf_up I 79 8 v) P := iv_wr h rfl hv
theorem iv_w8 (h : iv_A I P) (hv : 0 ≤ v ∧ v ≤ 1) : iv_A (lf_up I 8 i v) P := iv_wr h rfl hv
theorem iv_w86_2 (h : iv_A I P) (hv : 0 ≤ v ∧ v ≤ 29) : iv_A (lf_up I 86 2 v) P := iv_wr h rfl hv
theorem iv_w86_3 (h : iv_A I P) (hv : 0 ≤ v ∧ v ≤ 30) : iv_A (lf_up I 86 3 v) P := iv_wr h rfl hv
theorem iv_w89_2 (h : iv_A I P) (hv : 0 ≤ v ∧ v ≤ 6) : iv_A (lf_up I 89 2 v) P := iv_wr h rfl hv
theorem iv_w9 (h : iv_A I P) (hv : 0 ≤ v ∧ v ≤ 1) : iv_A (lf_up I 9 i v) P := iv_wr h rfl hv
theorem iv_w95_10 (h : iv_A I P) (hv : (-2147483648) ≤ v ∧ v ≤ 2147483647) : iv_A (lf_up I 95 10 v) P := iv_wr h rfl hv
theorem iv_w95_12 (h : iv_A I P) (hv : 0 ≤ v ∧ v ≤ 2115) : iv_A (lf_up I 95 12 v) P := iv_wr h rfl hv
theorem iv_w95_13 (h : iv_A I P) (hv : 0 ≤ v ∧ v ≤ 304) : iv_A (lf_up I 95 13 v) P := iv_wr h rfl hv
theorem iv_w95_14 (h : iv_A I P) (hv : 0 ≤ v ∧ v ≤ 12) : iv_A (lf_up I 95 14 v) P := iv_wr h rfl hv
theorem iv_w95_19 (h : iv_A I P) (hv : 0 ≤ v ∧ v ≤ 160) : iv_A (lf_up I 95 19 v) P := iv_wr h rfl hv
theorem iv_w95_20 (h : iv_A I P) (hv : 0 ≤ v ∧ v ≤ 8) : iv_A (lf_up I 95 20 v) P := iv_wr h rfl hv
theorem iv_w95_21 (h : iv_A I P) (hv : 0 ≤ v ∧ v ≤ 8) : iv_A (lf_up I 95 21 v) P := iv_wr h rfl hv
theorem iv_w95_22 (h : iv_A I P) (hv : 0 ≤ v ∧ v ≤ 80) : iv_A (lf_up I 95 22 v) P := iv_wr h rfl hv
theorem iv_w95_23 (h : iv_A I P) (hv : 0 ≤ v ∧ v ≤ 1) : iv_A (lf_up I 95 23 v) P := iv_wr h rfl hv
theorem iv_w95_24 (h : iv_A I P) (hv : (-2147483648) ≤ v ∧ v ≤ 2147483647) : iv_A (lf_up I 95 24 v) P := iv_wr h rfl hv
theorem iv_w95_29 (h : iv_A I P) (hv : (-2147483648) ≤ v ∧ v ≤ 2147483647) : iv_A (lf_up I 95 29 v) P := iv_wr h rfl hv
theorem iv_w95_30 (h : iv_A I P) (hv : (-2147483648) ≤ v ∧ v ≤ 2147483647) : iv_A (lf_up I 95 30 v) P := iv_wr h rfl hv
theorem iv_w95_31 (h : iv_A I P) (hv : (-2147483648) ≤ v ∧ v ≤ 2147483647) : iv_A (lf_up I 95 31 v) P := iv_wr h rfl hv
theorem iv_w95_4 (h : iv_A I P) (hv : 0 ≤ v ∧ v ≤ 300) : iv_A (lf_up I 95 4 v) P := iv_wr h rfl hv
theorem iv_w95_5 (h : iv_A I P) (hv : (-2147483648) ≤ v ∧ v ≤ 2147483647) : iv_A (lf_up I 95 5 v) P := iv_wr h rfl hv
theorem iv_w95_6 (h : iv_A I P) (hv : (-2147483648) ≤ v ∧ v ≤ 2147483647) : iv_A (lf_up I 95 6 v) P := iv_wr h rfl hv
theorem iv_w95_7 (h : iv_A I P) (hv : 0 ≤ v ∧ v ≤ 300) : iv_A (lf_up I 95 7 v) P := iv_wr h rfl hv
theorem iv_w95_8 (h : iv_A I P) (hv : 0 ≤ v ∧ v ≤ 300) : iv_A (lf_up I 95 8 v) P := iv_wr h rfl hv
theorem iv_w95_9 (h : iv_A I P) (hv : (-2147483648) ≤ v ∧ v ≤ 2147483647) : iv_A (lf_up I 95 9 v) P := iv_wr h rfl hv
theorem iv_w99 (h : iv_A I P) (hv : 0 ≤ v ∧ v ≤ 255) : iv_A (lf_up I 99 i v) P := iv_wr h rfl hv
theorem iv_cp18_82 {p q n : Int} (h : iv_A I P) : iv_A (lf_cp I 18 82 p q n) P := iv_copy h rfl (fun _ _ => show ((-1) : Int) ≤ (-1) ∧ (11 : Int) ≤ 11 from ⟨by decide, by decide⟩)
theorem iv_cp19_83 {p q n : Int} (h : iv_A I P) : iv_A (lf_cp I 19 83 p q n) P := iv_copy h rfl (fun _ _ => show ((-2147483648) : Int) ≤ (-2147483648) ∧ (2147483647 : Int) ≤ 2147483647 from ⟨by decide, by decide⟩)
theorem iv_cp20_84 {p q n : Int} (h : iv_A I P) : iv_A (lf_cp I 20 84 p q n) P := iv_copy h rfl (fun _ _ => show ((-2147483648) : Int) ≤ (-2147483648) ∧ (2147483647 : Int) ≤ 2147483647 from ⟨by decide, by decide⟩)
theorem iv_cp21_85 {p q n : Int} (h : iv_A I P) : iv_A (lf_cp I 21 85 p q n) P := iv_copy h rfl (fun _ _ => show ((-2147483648) : Int) ≤ (-2147483648) ∧ (2147483647 : Int) ≤ 2147483647 from ⟨by decide, by decide⟩)
theorem iv_cp23_87 (h : iv_A I P) : iv_A (lf_cp I 23 87 0 0 1170) P := iv_cpR h (by decide)
theorem iv_cp24_88 {p q n : Int} (h : iv_A I P) : iv_A (lf_cp I 24 88 p q n) P := iv_copy h rfl (fun _ _ => show (0 : Int) ≤ 0 ∧ (6 : Int) ≤ 6 from ⟨by decide, by decide⟩)
theorem iv_cp26_90 {p q n : Int} (h : iv_A I P) : iv_A (lf_cp I 26 90 p q n) P := iv_copy h rfl (fun _ _ => show ((-2147483648) : Int) ≤ (-2147483648) ∧ (2147483647 : Int) ≤ 2147483647 from ⟨by decide, by decide⟩)
theorem iv_cp27_91 {p q n : Int} (h : iv_A I P) : iv_A (lf_cp I 27 91 p q n) P := iv_copy h rfl (fun _ _ => show ((-2147483648) : Int) ≤ (-2147483648) ∧ (2147483647 : Int) ≤ 2147483647 from ⟨by decide, by decide⟩)
theorem iv_cp28_92 {p q n : Int} (h : iv_A I P) : iv_A (lf_cp I 28 92 p q n) P := iv_copy h rfl (fun _ _ => show ((-2147483648) : Int) ≤ (-2147483648) ∧ (2147483647 : Int) ≤ 2147483647 from ⟨by decide, by decide⟩)
theorem iv_cp29_93 {p q n : Int} (h : iv_A I P) : iv_A (lf_cp I 29 93 p q n) P := iv_copy h rfl (fun _ _ => show ((-2147483648) : Int) ≤ (-2147483648) ∧ (2147483647 : Int) ≤ 2147483647 from ⟨by decide, by decide⟩)
theorem iv_cp30_94 {p q n : Int} (h : iv_A I P) : iv_A (lf_cp I 30 94 p q n) P := iv_copy h rfl (fun _ _ => show ((-2147483648) : Int) ≤ (-2147483648) ∧ (2147483647 : Int) ≤ 2147483647 from ⟨by decide, by decide⟩)
theorem iv_cp76_77 {p q n : Int} (h : iv_A I P) : iv_A (lf_cp I 76 77 p q n) P := iv_copy h rfl (fun _ _ => show (0 : Int) ≤ 0 ∧ (5 : Int) ≤ 5 from ⟨by decide, by decide⟩)
theorem iv_cp82_18 {p q n : Int} (h : iv_A I P) : iv_A (lf_cp I 82 18 p q n) P := iv_copy h rfl (fun _ _ => show ((-1) : Int) ≤ (-1) ∧ (11 : Int) ≤ 11 from ⟨by decide, by decide⟩)
theorem iv_cp83_19 {p q n : Int} (h : iv_A I P) : iv_A (lf_cp I 83 19 p q n) P := iv_copy h rfl (fun _ _ => show ((-2147483648) : Int) ≤ (-2147483648) ∧ (2147483647 : Int) ≤ 2147483647 from ⟨by decide, by decide⟩)
theorem iv_cp84_20 {p q n : Int} (h : iv_A I P) : iv_A (lf_cp I 84 20 p q n) P := iv_copy h rfl (fun _ _ => show ((-2147483648) : Int) ≤ (-2147483648) ∧ (2147483647 : Int) ≤ 2147483647 from ⟨by decide, by decide⟩)
theorem iv_cp85_21 {p q n : Int} (h : iv_A I P) : iv_A (lf_cp I 85 21 p q n) P := iv_copy h rfl (fun _ _ => show ((-2147483648) : Int) ≤ (-2147483648) ∧ (2147483647 : Int) ≤ 2147483647 from ⟨by decide, by decide⟩)
theorem iv_cp87_23 (h : iv_A I P) : iv_A (lf_cp I 87 23 0 0 1170) P := iv_cpR h (by decide)
theorem iv_cp88_24 {p q n : Int} (h : iv_A I P) : iv_A (lf_cp I 88 24 p q n) P := iv_copy h rfl (fun _ _ => show (0 : Int) ≤ 0 ∧ (6 : Int) ≤ 6 from ⟨by decide, by decide⟩)
theorem iv_cp90_26 {p q n : Int} (h : iv_A I P) : iv_A (lf_cp I 90 26 p q n) P := iv_copy h rfl (fun _ _ => show ((-2147483648) : Int) ≤ (-2147483648) ∧ (2147483647 : Int) ≤ 2147483647 from ⟨by decide, by decide⟩)
theorem iv_cp91_27 {p q n : Int} (h : iv_A I P) : iv_A (lf_cp I 91 27 p q n) P := iv_copy h rfl (fun _ _ => show ((-2147483648) : Int) ≤ (-2147483648) ∧ (2147483647 : Int) ≤ 2147483647 from ⟨by decide, by decide⟩)
theorem iv_cp92_28 {p q n : Int} (h : iv_A I P) : iv_A (lf_cp I 92 28 p q n) P := iv_copy h rfl (fun _ _ => show ((-2147483648) : Int) ≤ (-2147483648) ∧ (2147483647 : Int) ≤ 2147483647 from ⟨by decide, by decide⟩)
theorem iv_cp93_29 {p q n : Int} (h : iv_A I P) : iv_A (lf_cp I 93 29 p q n) P := iv_copy h rfl (fun _ _ => show ((-2147483648) : Int) ≤ (-2147483648) ∧ (2147483647 : Int) ≤ 2147483647 from ⟨by decide, by decide⟩)
theorem iv_cp94_30 {p q n : Int} (h : iv_A I P) : iv_A (lf_cp I 94 30 p q n) P := iv_copy h rfl (fun _ _ => show ((-2147483648) : Int) ≤ (-2147483648) ∧ (2147483647 : Int) ≤ 2147483647 from ⟨by decide, by decide⟩)
theorem iv_fl12 {n : Int} (h : iv_A I P) (hv : 0 ≤ v ∧ v ≤ 4) : iv_A (lf_fl I 12 n v) P := iv_fill h rfl (fun _ => hv)
theorem iv_fl13 {n : Int} (h : iv_A I P) (hv : 0 ≤ v ∧ v ≤ 1000) : iv_A (lf_fl I 13 n v) P := iv_fill h rfl (fun _ => hv)
theorem iv_fl14 {n : Int} (h : iv_A I P) (hv : 0 ≤ v ∧ v ≤ 1000) : iv_A (lf_fl I 14 n v) P := iv_fill h rfl (fun _ => hv)
theorem iv_fl29 {n : Int} (h : iv_A I P) (hv : (-2147483648) ≤ v ∧ v ≤ 2147483647) : iv_A (lf_fl I 29 n v) P := iv_fill h rfl (fun _ => hv)
theorem iv_fl30 {n : Int} (h : iv_A I P) (hv : (-2147483648) ≤ v ∧ v ≤ 2147483647) : iv_A (lf_fl I 30 n v) P := iv_fill h rfl (fun _ => hv)
theorem iv_fl33 {n : Int} (h : iv_A I P) (hv : (-1) ≤ v ∧ v ≤ 7) : iv_A (lf_fl I 33 n v) P := iv_fill h rfl (fun _ => hv)
theorem iv_fl69 {n : Int} (h : iv_A I P) (hv : (-2147483648) ≤ v ∧ v ≤ 2147483647) : iv_A (lf_fl I 69 n v) P := iv_fill h rfl (fun _ => hv)
theorem iv_fl71 {n : Int} (h : iv_A I P) (hv : (-2147483648) ≤ v ∧ v ≤ 2147483647) : iv_A (lf_fl I 71 n v) P := iv_fill h rfl (fun _ => hv)
end IVB
theorem iv_fda037f3c {i : Int} (e : i = 114) : 0 ≤ (iv_a i).1 ∧ (iv_a i).2 ≤ 24 := by
  unfold iv_a
  repeat' refine iv_itR (fun h => ?_) (fun h => ?_)
  all_goals first | exact ⟨by decide, by decide⟩ | (exfalso; omega)
theorem iv_f168d6e22 {i : Int} (e : i = 117) : 0 ≤ (iv_a i).1 ∧ (iv_a i).2 ≤ 24 := by
  unfold iv_a
  repeat' refine iv_itR (fun h => ?_) (fun h => ?_)
  all_goals first | exact ⟨by decide, by decide⟩ | (exfalso; omega)
theorem iv_f5f96ec92 {i : Int} (e : i = 120) : 0 ≤ (iv_a i).1 ∧ (iv_a i).2 ≤ 24 := by
  unfold iv_a
  repeat' refine iv_itR (fun h => ?_) (fun h => ?_)
  all_goals first | exact ⟨by decide, by decide⟩ | (exfalso; omega)
theorem iv_fe4a5d80e {i : Int} (e : i = 123) : 0 ≤ (iv_a i).1 ∧ (iv_a i).2 ≤ 24 := by
  unfold iv_a
  repeat' refine iv_itR (fun h => ?_) (fun h => ?_)
  all_goals first | exact ⟨by decide, by decide⟩ | (exfalso; omega)
