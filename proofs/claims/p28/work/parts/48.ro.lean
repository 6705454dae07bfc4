/-! what the start gives: the texts, the rates, what a throw looks at -/
def st_tms : List Term := [Term.string "MailRouter$Reader" 87, .string "MailRouter$Reader" 93, .string "MailRouter$Reader" 95, .string "MailRouter$Rate" 61, .string "MailRouter$Rate" 65, .string "MailRouter$Rate" 66, .string "MailRouter$Rate" 67, .string "MailRouter$Rate" 68, .string "MailRouter$Rate" 69, .string "MailRouter$Rate" 70, .string "MailRouter$Rate" 71, .string "MailRouter$Rate" 72, .string "MailRouter$Rate" 73, .string "MailRouter" 97, .string "MailRouter" 108, .string "MailRouter" 123, .string "MailRouter" 134, .string "MailRouter" 165, .string "MailRouter" 177, .string "MailRouter" 257, .string "MailRouter" 262]
def st_tm (i : Nat) : Term := st_tms.getD i .null
def st_len : List Nat := [4, 7, 5, 5, 9, 6, 6, 6, 7, 5, 6, 4, 3, 15, 16, 21, 20, 19, 22, 21, 22]
def st_byt : List (List Int32) := [[100, 101, 97, 100], [112, 114, 105, 118, 97, 116, 101], [103, 97, 116, 101, 100], [76, 79, 67, 65, 76], [68, 69, 68, 73, 67, 65, 84, 69, 68], [68, 73, 82, 69, 67, 84], [68, 69, 77, 65, 78, 68], [72, 79, 85, 82, 76, 89], [69, 86, 69, 78, 73, 78, 71], [68, 65, 73, 76, 89], [87, 69, 69, 75, 76, 89], [72, 73, 71, 72], [76, 79, 87], [110, 32, 105, 115, 32, 110, 111, 116, 32, 49, 32, 116, 111, 32, 56], [116, 104, 101, 32, 116, 97, 112, 101, 32, 105, 115, 32, 102, 117, 108, 108], [116, 104, 101, 114, 101, 32, 105, 115, 32, 110, 111, 32, 115, 117, 99, 104, 32, 102, 105, 108, 101], [116, 104, 101, 32, 116, 101, 120, 116, 32, 104, 97, 115, 32, 97, 32, 102, 97, 117, 108, 116], [116, 104, 101, 32, 115, 117, 109, 32, 104, 97, 115, 32, 97, 32, 102, 97, 117, 108, 116], [116, 104, 101, 32, 116, 97, 112, 101, 32, 105, 115, 32, 110, 111, 116, 32, 97, 32, 110, 97, 109, 101], [116, 104, 101, 114, 101, 32, 105, 115, 32, 110, 111, 32, 115, 117, 99, 104, 32, 110, 111, 100, 101], [116, 104, 101, 114, 101, 32, 105, 115, 32, 110, 111, 32, 115, 117, 99, 104, 32, 112, 108, 97, 99, 101]]
def st_nm : List String := ["LOCAL", "DEDICATED", "DIRECT", "DEMAND", "HOURLY", "EVENING", "DAILY", "WEEKLY", "HIGH", "LOW"]
def st_rt (i : Nat) : Term := .static "MailRouter$Rate" (st_nm.getD i "") "LMailRouter$Rate;"
def st_acc (T : Cond) (r : List Cond) : List Cond := match T with
  | .and a b => st_acc a (st_acc b r)
  | c => c :: r
theorem st_acc_eq (T : Cond) : ∀ r, st_acc T r = flatC T ++ r := by
  induction T with
  | and a b iha ihb =>
    intro r
    show st_acc a (st_acc b r) = (flatC a ++ flatC b) ++ r
    rw [iha, ihb, List.append_assoc]
  | _ => intro r; rfl
def st_FL : List Cond := st_acc (Jvm.Cond.and given_1 narrow_1) []
def st_R : Term := .static "MailRouter" "RATES" "[LMailRouter$Rate;"
theorem st_ex : ∀ i, i < 21 → Cond.exactly (st_tm i) "java/lang/String" ∈ st_FL := by decide +kernel
theorem st_co : ∀ i, i < 21 → Cond.eq (.field (st_tm i) "java/lang/String" "coder" "B") (.int 0) ∈ st_FL := by decide +kernel
theorem st_ar : ∀ i, i < 21 → Cond.arrayOf (.field (st_tm i) "java/lang/String" "value" "[B") .byte ∈ st_FL := by decide +kernel
theorem st_le : ∀ i, i < 21 → Cond.eq (.length (.field (st_tm i) "java/lang/String" "value" "[B")) (.int (Int32.ofNat (st_len.getD i 0))) ∈ st_FL := by decide +kernel
theorem st_el0 : ∀ j, j < 4 → st_FL[([221, 222, 223, 224] : List Nat).getD j 0]? = some (Cond.eq (.elem (.field (st_tm 0) "java/lang/String" "value" "[B") (.int (Int32.ofNat j))) (.int ((st_byt.getD 0 []).getD j 0))) := by decide +kernel
theorem st_el1 : ∀ j, j < 7 → st_FL[([232, 233, 234, 235, 236, 237, 238] : List Nat).getD j 0]? = some (Cond.eq (.elem (.field (st_tm 1) "java/lang/String" "value" "[B") (.int (Int32.ofNat j))) (.int ((st_byt.getD 1 []).getD j 0))) := by decide +kernel
theorem st_ne1 : ∀ j, j < 1 → (st_FL[([242] : List Nat).getD j 0]? = some (Cond.not (.eq (st_tm 1) (st_tm j))) ∨ st_FL[([242] : List Nat).getD j 0]? = some (Cond.not (.eq (st_tm j) (st_tm 1)))) := by decide +kernel
theorem st_el2 : ∀ j, j < 5 → st_FL[([247, 248, 249, 250, 251] : List Nat).getD j 0]? = some (Cond.eq (.elem (.field (st_tm 2) "java/lang/String" "value" "[B") (.int (Int32.ofNat j))) (.int ((st_byt.getD 2 []).getD j 0))) := by decide +kernel
theorem st_ne2 : ∀ j, j < 2 → (st_FL[([255, 256] : List Nat).getD j 0]? = some (Cond.not (.eq (st_tm 2) (st_tm j))) ∨ st_FL[([255, 256] : List Nat).getD j 0]? = some (Cond.not (.eq (st_tm j) (st_tm 2)))) := by decide +kernel
theorem st_el3 : ∀ j, j < 5 → st_FL[([425, 426, 427, 428, 429] : List Nat).getD j 0]? = some (Cond.eq (.elem (.field (st_tm 3) "java/lang/String" "value" "[B") (.int (Int32.ofNat j))) (.int ((st_byt.getD 3 []).getD j 0))) := by decide +kernel
theorem st_ne3 : ∀ j, j < 3 → (st_FL[([433, 434, 435] : List Nat).getD j 0]? = some (Cond.not (.eq (st_tm 3) (st_tm j))) ∨ st_FL[([433, 434, 435] : List Nat).getD j 0]? = some (Cond.not (.eq (st_tm j) (st_tm 3)))) := by decide +kernel
theorem st_el4 : ∀ j, j < 9 → st_FL[([445, 446, 447, 448, 449, 450, 451, 452, 453] : List Nat).getD j 0]? = some (Cond.eq (.elem (.field (st_tm 4) "java/lang/String" "value" "[B") (.int (Int32.ofNat j))) (.int ((st_byt.getD 4 []).getD j 0))) := by decide +kernel
theorem st_ne4 : ∀ j, j < 4 → (st_FL[([457, 458, 459, 465] : List Nat).getD j 0]? = some (Cond.not (.eq (st_tm 4) (st_tm j))) ∨ st_FL[([457, 458, 459, 465] : List Nat).getD j 0]? = some (Cond.not (.eq (st_tm j) (st_tm 4)))) := by decide +kernel
theorem st_el5 : ∀ j, j < 6 → st_FL[([470, 471, 472, 473, 474, 475] : List Nat).getD j 0]? = some (Cond.eq (.elem (.field (st_tm 5) "java/lang/String" "value" "[B") (.int (Int32.ofNat j))) (.int ((st_byt.getD 5 []).getD j 0))) := by decide +kernel
theorem st_ne5 : ∀ j, j < 5 → (st_FL[([479, 480, 481, 487, 488] : List Nat).getD j 0]? = some (Cond.not (.eq (st_tm 5) (st_tm j))) ∨ st_FL[([479, 480, 481, 487, 488] : List Nat).getD j 0]? = some (Cond.not (.eq (st_tm j) (st_tm 5)))) := by decide +kernel
theorem st_el6 : ∀ j, j < 6 → st_FL[([493, 494, 495, 496, 497, 498] : List Nat).getD j 0]? = some (Cond.eq (.elem (.field (st_tm 6) "java/lang/String" "value" "[B") (.int (Int32.ofNat j))) (.int ((st_byt.getD 6 []).getD j 0))) := by decide +kernel
theorem st_ne6 : ∀ j, j < 6 → (st_FL[([502, 503, 504, 510, 511, 512] : List Nat).getD j 0]? = some (Cond.not (.eq (st_tm 6) (st_tm j))) ∨ st_FL[([502, 503, 504, 510, 511, 512] : List Nat).getD j 0]? = some (Cond.not (.eq (st_tm j) (st_tm 6)))) := by decide +kernel
theorem st_el7 : ∀ j, j < 6 → st_FL[([517, 518, 519, 520, 521, 522] : List Nat).getD j 0]? = some (Cond.eq (.elem (.field (st_tm 7) "java/lang/String" "value" "[B") (.int (Int32.ofNat j))) (.int ((st_byt.getD 7 []).getD j 0))) := by decide +kernel
theorem st_ne7 : ∀ j, j < 7 → (st_FL[([526, 527, 528, 534, 535, 536, 537] : List Nat).getD j 0]? = some (Cond.not (.eq (st_tm 7) (st_tm j))) ∨ st_FL[([526, 527, 528, 534, 535, 536, 537] : List Nat).getD j 0]? = some (Cond.not (.eq (st_tm j) (st_tm 7)))) := by decide +kernel
theorem st_el8 : ∀ j, j < 7 → st_FL[([542, 543, 544, 545, 546, 547, 548] : List Nat).getD j 0]? = some (Cond.eq (.elem (.field (st_tm 8) "java/lang/String" "value" "[B") (.int (Int32.ofNat j))) (.int ((st_byt.getD 8 []).getD j 0))) := by decide +kernel
theorem st_ne8 : ∀ j, j < 8 → (st_FL[([552, 553, 554, 560, 561, 562, 563, 564] : List Nat).getD j 0]? = some (Cond.not (.eq (st_tm 8) (st_tm j))) ∨ st_FL[([552, 553, 554, 560, 561, 562, 563, 564] : List Nat).getD j 0]? = some (Cond.not (.eq (st_tm j) (st_tm 8)))) := by decide +kernel
theorem st_el9 : ∀ j, j < 5 → st_FL[([569, 570, 571, 572, 573] : List Nat).getD j 0]? = some (Cond.eq (.elem (.field (st_tm 9) "java/lang/String" "value" "[B") (.int (Int32.ofNat j))) (.int ((st_byt.getD 9 []).getD j 0))) := by decide +kernel
theorem st_ne9 : ∀ j, j < 9 → (st_FL[([577, 578, 579, 585, 586, 587, 588, 589, 590] : List Nat).getD j 0]? = some (Cond.not (.eq (st_tm 9) (st_tm j))) ∨ st_FL[([577, 578, 579, 585, 586, 587, 588, 589, 590] : List Nat).getD j 0]? = some (Cond.not (.eq (st_tm j) (st_tm 9)))) := by decide +kernel
theorem st_el10 : ∀ j, j < 6 → st_FL[([595, 596, 597, 598, 599, 600] : List Nat).getD j 0]? = some (Cond.eq (.elem (.field (st_tm 10) "java/lang/String" "value" "[B") (.int (Int32.ofNat j))) (.int ((st_byt.getD 10 []).getD j 0))) := by decide +kernel
theorem st_ne10 : ∀ j, j < 10 → (st_FL[([604, 605, 606, 612, 613, 614, 615, 616, 617, 618] : List Nat).getD j 0]? = some (Cond.not (.eq (st_tm 10) (st_tm j))) ∨ st_FL[([604, 605, 606, 612, 613, 614, 615, 616, 617, 618] : List Nat).getD j 0]? = some (Cond.not (.eq (st_tm j) (st_tm 10)))) := by decide +kernel
theorem st_el11 : ∀ j, j < 4 → st_FL[([623, 624, 625, 626] : List Nat).getD j 0]? = some (Cond.eq (.elem (.field (st_tm 11) "java/lang/String" "value" "[B") (.int (Int32.ofNat j))) (.int ((st_byt.getD 11 []).getD j 0))) := by decide +kernel
theorem st_ne11 : ∀ j, j < 11 → (st_FL[([630, 631, 632, 638, 639, 640, 641, 642, 643, 644, 645] : List Nat).getD j 0]? = some (Cond.not (.eq (st_tm 11) (st_tm j))) ∨ st_FL[([630, 631, 632, 638, 639, 640, 641, 642, 643, 644, 645] : List Nat).getD j 0]? = some (Cond.not (.eq (st_tm j) (st_tm 11)))) := by decide +kernel
theorem st_el12 : ∀ j, j < 3 → st_FL[([650, 651, 652] : List Nat).getD j 0]? = some (Cond.eq (.elem (.field (st_tm 12) "java/lang/String" "value" "[B") (.int (Int32.ofNat j))) (.int ((st_byt.getD 12 []).getD j 0))) := by decide +kernel
theorem st_ne12 : ∀ j, j < 12 → (st_FL[([656, 657, 658, 664, 665, 666, 667, 668, 669, 670, 671, 672] : List Nat).getD j 0]? = some (Cond.not (.eq (st_tm 12) (st_tm j))) ∨ st_FL[([656, 657, 658, 664, 665, 666, 667, 668, 669, 670, 671, 672] : List Nat).getD j 0]? = some (Cond.not (.eq (st_tm j) (st_tm 12)))) := by decide +kernel
theorem st_el13 : ∀ j, j < 15 → st_FL[([154, 155, 156, 157, 158, 159, 160, 161, 162, 163, 164, 165, 166, 167, 168] : List Nat).getD j 0]? = some (Cond.eq (.elem (.field (st_tm 13) "java/lang/String" "value" "[B") (.int (Int32.ofNat j))) (.int ((st_byt.getD 13 []).getD j 0))) := by decide +kernel
theorem st_ne13 : ∀ j, j < 13 → (st_FL[([225, 239, 252, 430, 454, 476, 499, 523, 549, 574, 601, 627, 653] : List Nat).getD j 0]? = some (Cond.not (.eq (st_tm 13) (st_tm j))) ∨ st_FL[([225, 239, 252, 430, 454, 476, 499, 523, 549, 574, 601, 627, 653] : List Nat).getD j 0]? = some (Cond.not (.eq (st_tm j) (st_tm 13)))) := by decide +kernel
theorem st_el14 : ∀ j, j < 16 → st_FL[([173, 174, 175, 176, 177, 178, 179, 180, 181, 182, 183, 184, 185, 186, 187, 188] : List Nat).getD j 0]? = some (Cond.eq (.elem (.field (st_tm 14) "java/lang/String" "value" "[B") (.int (Int32.ofNat j))) (.int ((st_byt.getD 14 []).getD j 0))) := by decide +kernel
theorem st_ne14 : ∀ j, j < 14 → (st_FL[([226, 240, 253, 431, 455, 477, 500, 524, 550, 575, 602, 628, 654, 189] : List Nat).getD j 0]? = some (Cond.not (.eq (st_tm 14) (st_tm j))) ∨ st_FL[([226, 240, 253, 431, 455, 477, 500, 524, 550, 575, 602, 628, 654, 189] : List Nat).getD j 0]? = some (Cond.not (.eq (st_tm j) (st_tm 14)))) := by decide +kernel
theorem st_el15 : ∀ j, j < 21 → st_FL[([194, 195, 196, 197, 198, 199, 200, 201, 202, 203, 204, 205, 206, 207, 208, 209, 210, 211, 212, 213, 214] : List Nat).getD j 0]? = some (Cond.eq (.elem (.field (st_tm 15) "java/lang/String" "value" "[B") (.int (Int32.ofNat j))) (.int ((st_byt.getD 15 []).getD j 0))) := by decide +kernel
theorem st_ne15 : ∀ j, j < 15 → (st_FL[([227, 241, 254, 432, 456, 478, 501, 525, 551, 576, 603, 629, 655, 215, 216] : List Nat).getD j 0]? = some (Cond.not (.eq (st_tm 15) (st_tm j))) ∨ st_FL[([227, 241, 254, 432, 456, 478, 501, 525, 551, 576, 603, 629, 655, 215, 216] : List Nat).getD j 0]? = some (Cond.not (.eq (st_tm j) (st_tm 15)))) := by decide +kernel
theorem st_el16 : ∀ j, j < 20 → st_FL[([261, 262, 263, 264, 265, 266, 267, 268, 269, 270, 271, 272, 273, 274, 275, 276, 277, 278, 279, 280] : List Nat).getD j 0]? = some (Cond.eq (.elem (.field (st_tm 16) "java/lang/String" "value" "[B") (.int (Int32.ofNat j))) (.int ((st_byt.getD 16 []).getD j 0))) := by decide +kernel
theorem st_ne16 : ∀ j, j < 16 → (st_FL[([284, 285, 286, 436, 460, 482, 505, 529, 555, 580, 607, 633, 659, 281, 282, 283] : List Nat).getD j 0]? = some (Cond.not (.eq (st_tm 16) (st_tm j))) ∨ st_FL[([284, 285, 286, 436, 460, 482, 505, 529, 555, 580, 607, 633, 659, 281, 282, 283] : List Nat).getD j 0]? = some (Cond.not (.eq (st_tm j) (st_tm 16)))) := by decide +kernel
theorem st_el17 : ∀ j, j < 19 → st_FL[([291, 292, 293, 294, 295, 296, 297, 298, 299, 300, 301, 302, 303, 304, 305, 306, 307, 308, 309] : List Nat).getD j 0]? = some (Cond.eq (.elem (.field (st_tm 17) "java/lang/String" "value" "[B") (.int (Int32.ofNat j))) (.int ((st_byt.getD 17 []).getD j 0))) := by decide +kernel
theorem st_ne17 : ∀ j, j < 17 → (st_FL[([313, 314, 315, 437, 461, 483, 506, 530, 556, 581, 608, 634, 660, 310, 311, 312, 316] : List Nat).getD j 0]? = some (Cond.not (.eq (st_tm 17) (st_tm j))) ∨ st_FL[([313, 314, 315, 437, 461, 483, 506, 530, 556, 581, 608, 634, 660, 310, 311, 312, 316] : List Nat).getD j 0]? = some (Cond.not (.eq (st_tm j) (st_tm 17)))) := by decide +kernel
theorem st_el18 : ∀ j, j < 22 → st_FL[([321, 322, 323, 324, 325, 326, 327, 328, 329, 330, 331, 332, 333, 334, 335, 336, 337, 338, 339, 340, 341, 342] : List Nat).getD j 0]? = some (Cond.eq (.elem (.field (st_tm 18) "java/lang/String" "value" "[B") (.int (Int32.ofNat j))) (.int ((st_byt.getD 18 []).getD j 0))) := by decide +kernel
theorem st_ne18 : ∀ j, j < 18 → (st_FL[([346, 347, 348, 438, 462, 484, 507, 531, 557, 582, 609, 635, 661, 343, 344, 345, 349, 350] : List Nat).getD j 0]? = some (Cond.not (.eq (st_tm 18) (st_tm j))) ∨ st_FL[([346, 347, 348, 438, 462, 484, 507, 531, 557, 582, 609, 635, 661, 343, 344, 345, 349, 350] : List Nat).getD j 0]? = some (Cond.not (.eq (st_tm j) (st_tm 18)))) := by decide +kernel
theorem st_el19 : ∀ j, j < 21 → st_FL[([355, 356, 357, 358, 359, 360, 361, 362, 363, 364, 365, 366, 367, 368, 369, 370, 371, 372, 373, 374, 375] : List Nat).getD j 0]? = some (Cond.eq (.elem (.field (st_tm 19) "java/lang/String" "value" "[B") (.int (Int32.ofNat j))) (.int ((st_byt.getD 19 []).getD j 0))) := by decide +kernel
theorem st_ne19 : ∀ j, j < 19 → (st_FL[([379, 380, 381, 439, 463, 485, 508, 532, 558, 583, 610, 636, 662, 376, 377, 378, 382, 383, 384] : List Nat).getD j 0]? = some (Cond.not (.eq (st_tm 19) (st_tm j))) ∨ st_FL[([379, 380, 381, 439, 463, 485, 508, 532, 558, 583, 610, 636, 662, 376, 377, 378, 382, 383, 384] : List Nat).getD j 0]? = some (Cond.not (.eq (st_tm j) (st_tm 19)))) := by decide +kernel
theorem st_el20 : ∀ j, j < 22 → st_FL[([389, 390, 391, 392, 393, 394, 395, 396, 397, 398, 399, 400, 401, 402, 403, 404, 405, 406, 407, 408, 409, 410] : List Nat).getD j 0]? = some (Cond.eq (.elem (.field (st_tm 20) "java/lang/String" "value" "[B") (.int (Int32.ofNat j))) (.int ((st_byt.getD 20 []).getD j 0))) := by decide +kernel
theorem st_ne20 : ∀ j, j < 20 → (st_FL[([414, 415, 416, 440, 464, 486, 509, 533, 559, 584, 611, 637, 663, 411, 412, 413, 417, 418, 419, 420] : List Nat).getD j 0]? = some (Cond.not (.eq (st_tm 20) (st_tm j))) ∨ st_FL[([414, 415, 416, 440, 464, 486, 509, 533, 559, 584, 611, 637, 663, 411, 412, 413, 417, 418, 419, 420] : List Nat).getD j 0]? = some (Cond.not (.eq (st_tm j) (st_tm 20)))) := by decide +kernel
theorem st_el (i : Nat) (hi : i < 21) : ∀ j, j < st_len.getD i 0 → Cond.eq (.elem (.field (st_tm i) "java/lang/String" "value" "[B") (.int (Int32.ofNat j))) (.int ((st_byt.getD i []).getD j 0)) ∈ st_FL := by
  match i, hi with
  | 0, _ => exact fun j hj => List.mem_of_getElem? (st_el0 j hj)
  | 1, _ => exact fun j hj => List.mem_of_getElem? (st_el1 j hj)
  | 2, _ => exact fun j hj => List.mem_of_getElem? (st_el2 j hj)
  | 3, _ => exact fun j hj => List.mem_of_getElem? (st_el3 j hj)
  | 4, _ => exact fun j hj => List.mem_of_getElem? (st_el4 j hj)
  | 5, _ => exact fun j hj => List.mem_of_getElem? (st_el5 j hj)
  | 6, _ => exact fun j hj => List.mem_of_getElem? (st_el6 j hj)
  | 7, _ => exact fun j hj => List.mem_of_getElem? (st_el7 j hj)
  | 8, _ => exact fun j hj => List.mem_of_getElem? (st_el8 j hj)
  | 9, _ => exact fun j hj => List.mem_of_getElem? (st_el9 j hj)
  | 10, _ => exact fun j hj => List.mem_of_getElem? (st_el10 j hj)
  | 11, _ => exact fun j hj => List.mem_of_getElem? (st_el11 j hj)
  | 12, _ => exact fun j hj => List.mem_of_getElem? (st_el12 j hj)
  | 13, _ => exact fun j hj => List.mem_of_getElem? (st_el13 j hj)
  | 14, _ => exact fun j hj => List.mem_of_getElem? (st_el14 j hj)
  | 15, _ => exact fun j hj => List.mem_of_getElem? (st_el15 j hj)
  | 16, _ => exact fun j hj => List.mem_of_getElem? (st_el16 j hj)
  | 17, _ => exact fun j hj => List.mem_of_getElem? (st_el17 j hj)
  | 18, _ => exact fun j hj => List.mem_of_getElem? (st_el18 j hj)
  | 19, _ => exact fun j hj => List.mem_of_getElem? (st_el19 j hj)
  | 20, _ => exact fun j hj => List.mem_of_getElem? (st_el20 j hj)
  | k + 21, h => exact absurd h (by omega)
theorem st_neL (i : Nat) (hi : i < 21) : ∀ j, j < i → (Cond.not (.eq (st_tm i) (st_tm j)) ∈ st_FL ∨ Cond.not (.eq (st_tm j) (st_tm i)) ∈ st_FL) := by
  match i, hi with
  | 0, _ => exact fun j hj => absurd hj (by omega)
  | 1, _ => exact fun j hj => (st_ne1 j hj).elim (fun h => Or.inl (List.mem_of_getElem? h)) (fun h => Or.inr (List.mem_of_getElem? h))
  | 2, _ => exact fun j hj => (st_ne2 j hj).elim (fun h => Or.inl (List.mem_of_getElem? h)) (fun h => Or.inr (List.mem_of_getElem? h))
  | 3, _ => exact fun j hj => (st_ne3 j hj).elim (fun h => Or.inl (List.mem_of_getElem? h)) (fun h => Or.inr (List.mem_of_getElem? h))
  | 4, _ => exact fun j hj => (st_ne4 j hj).elim (fun h => Or.inl (List.mem_of_getElem? h)) (fun h => Or.inr (List.mem_of_getElem? h))
  | 5, _ => exact fun j hj => (st_ne5 j hj).elim (fun h => Or.inl (List.mem_of_getElem? h)) (fun h => Or.inr (List.mem_of_getElem? h))
  | 6, _ => exact fun j hj => (st_ne6 j hj).elim (fun h => Or.inl (List.mem_of_getElem? h)) (fun h => Or.inr (List.mem_of_getElem? h))
  | 7, _ => exact fun j hj => (st_ne7 j hj).elim (fun h => Or.inl (List.mem_of_getElem? h)) (fun h => Or.inr (List.mem_of_getElem? h))
  | 8, _ => exact fun j hj => (st_ne8 j hj).elim (fun h => Or.inl (List.mem_of_getElem? h)) (fun h => Or.inr (List.mem_of_getElem? h))
  | 9, _ => exact fun j hj => (st_ne9 j hj).elim (fun h => Or.inl (List.mem_of_getElem? h)) (fun h => Or.inr (List.mem_of_getElem? h))
  | 10, _ => exact fun j hj => (st_ne10 j hj).elim (fun h => Or.inl (List.mem_of_getElem? h)) (fun h => Or.inr (List.mem_of_getElem? h))
  | 11, _ => exact fun j hj => (st_ne11 j hj).elim (fun h => Or.inl (List.mem_of_getElem? h)) (fun h => Or.inr (List.mem_of_getElem? h))
  | 12, _ => exact fun j hj => (st_ne12 j hj).elim (fun h => Or.inl (List.mem_of_getElem? h)) (fun h => Or.inr (List.mem_of_getElem? h))
  | 13, _ => exact fun j hj => (st_ne13 j hj).elim (fun h => Or.inl (List.mem_of_getElem? h)) (fun h => Or.inr (List.mem_of_getElem? h))
  | 14, _ => exact fun j hj => (st_ne14 j hj).elim (fun h => Or.inl (List.mem_of_getElem? h)) (fun h => Or.inr (List.mem_of_getElem? h))
  | 15, _ => exact fun j hj => (st_ne15 j hj).elim (fun h => Or.inl (List.mem_of_getElem? h)) (fun h => Or.inr (List.mem_of_getElem? h))
  | 16, _ => exact fun j hj => (st_ne16 j hj).elim (fun h => Or.inl (List.mem_of_getElem? h)) (fun h => Or.inr (List.mem_of_getElem? h))
  | 17, _ => exact fun j hj => (st_ne17 j hj).elim (fun h => Or.inl (List.mem_of_getElem? h)) (fun h => Or.inr (List.mem_of_getElem? h))
  | 18, _ => exact fun j hj => (st_ne18 j hj).elim (fun h => Or.inl (List.mem_of_getElem? h)) (fun h => Or.inr (List.mem_of_getElem? h))
  | 19, _ => exact fun j hj => (st_ne19 j hj).elim (fun h => Or.inl (List.mem_of_getElem? h)) (fun h => Or.inr (List.mem_of_getElem? h))
  | 20, _ => exact fun j hj => (st_ne20 j hj).elim (fun h => Or.inl (List.mem_of_getElem? h)) (fun h => Or.inr (List.mem_of_getElem? h))
  | k + 21, h => exact absurd h (by omega)
theorem st_ne (i : Nat) (hi : i < 21) (j : Nat) (hj : j < 21) (hij : i ≠ j) : (Cond.not (.eq (st_tm i) (st_tm j)) ∈ st_FL ∨ Cond.not (.eq (st_tm j) (st_tm i)) ∈ st_FL) := by
  rcases Nat.lt_or_ge j i with h | h
  · exact st_neL i hi j h
  · exact (st_neL j hj i (by omega)).symm
theorem st_rx : ∀ i, i < 10 → Cond.exactly (st_rt i) "MailRouter$Rate" ∈ st_FL := by decide +kernel
theorem st_rl : ∀ i, i < 10 → Cond.eq (.field (st_rt i) "MailRouter$Rate" "letters" "Ljava/lang/String;") (st_tm (3 + i)) ∈ st_FL := by decide +kernel
theorem st_rw : ∀ i, i < 10 → Cond.eq (.field (st_rt i) "MailRouter$Rate" "worth" "I") (.int (cw_worth.getD i 0)) ∈ st_FL := by decide +kernel
theorem st_re : ∀ i, i < 10 → Cond.eq (.elem st_R (.int (Int32.ofNat i))) (st_rt i) ∈ st_FL := by decide +kernel
theorem st_ra : Cond.arrayOf st_R (.object "MailRouter$Rate") ∈ st_FL := by decide +kernel
theorem st_rn : Cond.eq (.length st_R) (.int 10) ∈ st_FL := by decide +kernel
theorem st_cs : Cond.eq (.static "java/lang/String" "COMPACT_STRINGS" "Z") (.int 1) ∈ st_FL := by decide +kernel
theorem st_q1 : Cond.isRef (.static Bundle.tN "UNASSIGNED_STACK" Bundle.steD) ∈ st_FL := by decide +kernel
theorem st_q2 : Cond.isRef (.static Bundle.tN "SUPPRESSED_SENTINEL" Bundle.listD) ∈ st_FL := by decide +kernel
theorem st_q3 : Cond.isRef (.static "jdk/internal/util/Preconditions" "SIOOBE_FORMATTER" "Ljava/util/function/BiFunction;") ∈ st_FL := by decide +kernel
theorem st_n1 : Cond.not (.castable "java/lang/IllegalStateException" "java/lang/IllegalArgumentException") ∈ st_FL := by decide +kernel
theorem st_n3 : Cond.not (.castable "java/lang/IllegalArgumentException" "java/lang/IndexOutOfBoundsException") ∈ st_FL := by decide +kernel
theorem st_n2 : Cond.not (.castable "java/lang/IllegalStateException" "java/lang/IndexOutOfBoundsException") ∈ st_FL := by decide +kernel
theorem st_l1 : Cond.laysStatic Bundle.tN "UNASSIGNED_STACK" Bundle.steD ∈ lw_tbl := List.mem_of_getElem? (i := 431) (by decide +kernel)
theorem st_l2 : Cond.laysStatic Bundle.tN "SUPPRESSED_SENTINEL" Bundle.listD ∈ lw_tbl := List.mem_of_getElem? (i := 433) (by decide +kernel)
theorem st_l3 : Cond.laysStatic "jdk/internal/util/Preconditions" "SIOOBE_FORMATTER" "Ljava/util/function/BiFunction;" ∈ lw_tbl := List.mem_of_getElem? (i := 645) (by decide +kernel)
theorem st_l4 : Cond.laysStatic "java/lang/String" "COMPACT_STRINGS" "Z" ∈ lw_tbl := List.mem_of_getElem? (i := 629) (by decide +kernel)
theorem st_l5 : Cond.laysStatic "MailRouter" "RATES" "[LMailRouter$Rate;" ∈ lw_tbl := List.mem_of_getElem? (i := 615) (by decide +kernel)
theorem st_i1 : Cond.initialized Bundle.tN ∈ lw_tbl := List.mem_of_getElem? (i := 58) (by decide +kernel)
theorem st_i3 : Cond.initialized "jdk/internal/util/Preconditions" ∈ lw_tbl := List.mem_of_getElem? (i := 66) (by decide +kernel)
theorem st_i4 : Cond.initialized "java/lang/String" ∈ lw_tbl := List.mem_of_getElem? (i := 64) (by decide +kernel)
theorem st_i5 : Cond.initialized "MailRouter" ∈ lw_tbl := List.mem_of_getElem? (i := 47) (by decide +kernel)
theorem st_sr : ∀ w ∈ cw_strs, Cond.stringRef w.1 w.2.1 w.2.2.1 ∈ lw_tbl := by decide +kernel
theorem st_st : ∀ w ∈ cw_strs, w.2.2.2 < 21 ∧ st_tm w.2.2.2 = .string w.1 w.2.1 := by decide +kernel
theorem st_nm1 : ∀ w ∈ cw_nestM, Cond.methodLinkNest w.1 w.2.1 w.2.2.1 w.2.2.2 ∈ lw_tbl := by decide +kernel
theorem st_nf1 : ∀ w ∈ cw_nestF, Cond.fieldLinkNest w.1 w.2.1 w.2.2.1 w.2.2.2.1 w.2.2.2.2.1 w.2.2.2.2.2 ∈ lw_tbl := by decide +kernel
theorem st_pre : ∀ i, i < 13 → (st_len.getD i 0 = cw_len.getD i 0 ∧ st_byt.getD i [] = cw_byt.getD i []) := by decide +kernel
theorem st_ev {args : Array Value} {s : State} {a b : Term} {y : Value} (h : (Cond.eq a b).before args s = true) (hb : b.eval args s none [] s = some y) : a.eval args s none [] s = some y := by
  obtain ⟨z, h1, h2⟩ := Cond.eq_one h
  rw [hb] at h2
  cases h2
  exact h1
theorem st_RO {s : State} {b : Nat} {A : Nat → Prop} (hts : ∀ w ∈ lw_tbl, w.before #[Value.ref b] s = true) (hgv : (Jvm.Cond.and given_1 narrow_1).before #[Value.ref b] s = true) (hA : ∀ q : Nat, q < s.heap.size → ¬ A q) : ∃ (tR : Nat) (adE adK adV : Nat → Nat), ∀ (D : va_G) (aC : Nat → ClassId) (ad : Nat → Nat), cw_RO (D, aC, ad, tR, adE, adK, adV) A s s.heap := by
  have hs : ∀ c ∈ st_FL, c.before #[Value.ref b] s = true := fun c hc => flat_of_before _ hgv c (by rw [st_FL, st_acc_eq, List.append_nil] at hc; exact hc)
  obtain ⟨adK, adV, hS, hev⟩ := vk_Sof (args := #[Value.ref b]) (s := s) (N := 21) (tm := st_tm) (len := st_len) (byt := st_byt) (A := A) (by decide +kernel) (fun i hi => hs _ (st_ex i hi)) (fun i hi => hs _ (st_co i hi)) (fun i hi => hs _ (st_ar i hi)) (fun i hi => hs _ (st_le i hi)) (fun i hi j hj => hs _ (st_el i hi j hj)) (fun i j hi hj hij => (st_ne i hi j hj hij).elim (fun h => Or.inl (hs _ h)) (fun h => Or.inr (hs _ h))) hA
  have hre : ∀ i : Nat, ∃ q : Nat, i < 10 → (st_rt i).eval #[Value.ref b] s none [] s = some (.ref q) := fun i => by
    by_cases hi : i < 10
    · obtain ⟨q, -, -, -, h, -⟩ := Cond.exactly_spec (hs _ (st_rx i hi))
      exact ⟨q, fun _ => h⟩
    · exact ⟨0, fun h => absurd h hi⟩
  obtain ⟨adE, hE⟩ := Classical.axiomOfChoice hre
  obtain ⟨tR, hR1, hR2⟩ := va_Tof (args := #[Value.ref b]) (s := s) (tm := st_R) (ty := .object "MailRouter$Rate") (N := 10) (f := fun j => .ref (adE j)) (A := A) (by decide) (hs _ st_ra) (st_ev (hs _ st_rn) rfl) (fun j hj => st_ev (hs _ (st_re j hj)) (hE j hj)) hA
  refine ⟨tR, adE, adK, adV, fun D aC ad => ⟨fun w hw => va_Nw.of rfl (hts _ (st_nm1 w hw)), fun w hw => va_Nw.of rfl (hts _ (st_nf1 w hw)), fun w hw => ?_, ⟨va_Zof (hts _ st_l5) (hts _ st_i5) hR1 hA, va_Zof (hts _ st_l4) (hts _ st_i4) (st_ev (hs _ st_cs) rfl) hA, va_Zqof (hts _ st_l3) (hts _ st_i3) (hs _ st_q3) hA⟩, hR2, fun i hi => vk_OFof (hE i hi) (st_ev (hs _ (st_rl i hi)) (hev (3 + i) (by omega))) hA, fun i hi => vk_OFof (hE i hi) (st_ev (hs _ (st_rw i hi)) rfl) hA, ⟨fun i hi => ?_, fun i j hi hj => hS.2 i j (by omega) (by omega)⟩, vx_Zqof (hts _ st_l1) (hts _ st_i1) (hs _ st_q1) hA, vx_Zqof (hts _ st_l2) (hts _ st_i1) (hs _ st_q2) hA, fun w hw => ?_, va_Nc.of (hs _ st_n1), va_Nc.of (hs _ st_n2), va_Nc.of (hs _ st_n3)⟩⟩
  · obtain ⟨h1, h2⟩ := st_st w hw
    exact vk_R.of (hts _ (st_sr w hw)) (by rw [← h2]; exact hev _ h1)
  · obtain ⟨h1, h2, h3, h4⟩ := hS.1 i (by omega)
    obtain ⟨e1, e2⟩ := st_pre i hi
    rw [← e1, ← e2]
    exact ⟨h1, h2, h3, h4⟩
  · obtain ⟨h1, h2⟩ := List.mem_filter.mp hw
    have h := hts w h1
    cases w <;> first | exact va_Nw.of rfl h | cases h2
