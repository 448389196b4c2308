/-! ===== the blocks of the classes: which cells, which numbers ===== -/
def LFl : List bC := [.inl (6, [(0, 0), (1, 1), (1, 2), (1, 3), (1, 10), (1, 17), (1, 18)]), .inr (0, 6, 1, 0), .inr (0, 6, 7, 0), .inr (2, 6, 4, 1), .inr (0, 12, 13, 0), .inr (0, 12, 25, 0), .inr (0, 12, 37, 0), .inr (0, 12, 49, 0), .inr (0, 12, 61, 0), .inr (0, 12, 73, 0), .inr (2, 6, 11, 1), .inr (0, 12, 85, 0), .inr (0, 12, 97, 0), .inr (0, 12, 109, 0), .inr (0, 12, 121, 0), .inr (0, 12, 133, 0), .inr (0, 12, 145, 0), .inr (0, 6, 157, 0), .inr (0, 6, 163, 0)]
def LBr : List bC := [.inl (5, [(0, 0), (1, 1), (1, 2), (1, 3), (1, 4), (1, 5), (1, 6), (1, 7)]), .inr (0, 6, 1, 0), .inr (0, 6, 7, 0), .inr (0, 6, 13, 0), .inr (0, 6, 19, 0), .inr (0, 6, 25, 0), .inr (0, 6, 31, 0), .inr (2, 6, 8, 1), .inr (0, 6, 37, 0), .inr (0, 6, 43, 0), .inr (0, 6, 49, 0), .inr (0, 6, 55, 0), .inr (0, 6, 61, 0), .inr (0, 6, 67, 0)]
def LOv : List bC := [.inl (9, [(0, 0), (0, 1), (1, 1), (1, 2)]), .inr (0, 3, 2, 0), .inr (0, 24, 5, 0)]
def LBa : List bC := [.inl (4, [(0, 0), (1, 1), (1, 2), (1, 3), (1, 4), (1, 5), (1, 6), (1, 7), (1, 8), (1, 9)]), .inr (0, 24, 1, 0), .inr (0, 24, 25, 0), .inr (0, 24, 49, 0), .inr (0, 24, 73, 0), .inr (0, 24, 97, 0), .inr (0, 24, 121, 0), .inr (0, 24, 145, 0), .inr (0, 24, 169, 0), .inr (2, 24, 10, 1), .inr (0, 5, 193, 0), .inr (0, 5, 198, 0), .inr (0, 5, 203, 0), .inr (0, 5, 208, 0), .inr (0, 5, 213, 0), .inr (0, 5, 218, 0), .inr (0, 5, 223, 0), .inr (0, 5, 228, 0), .inr (0, 5, 233, 0), .inr (0, 5, 238, 0), .inr (0, 5, 243, 0), .inr (0, 5, 248, 0), .inr (0, 5, 253, 0), .inr (0, 5, 258, 0), .inr (0, 5, 263, 0), .inr (0, 5, 268, 0), .inr (0, 5, 273, 0), .inr (0, 5, 278, 0), .inr (0, 5, 283, 0), .inr (0, 5, 288, 0), .inr (0, 5, 293, 0), .inr (0, 5, 298, 0), .inr (0, 5, 303, 0), .inr (0, 5, 308, 0)]
def LTx : List bC := [.inl (11, [(0, 0), (0, 1), (0, 2), (1, 1), (1, 2), (1, 3), (1, 4)]), .inr (0, 700, 3, 0), .inr (0, 701, 703, 0), .inr (0, 701, 1404, 0), .inr (0, 701, 2105, 0)]
def LMo : List bC := [.inl (13, [(1, 1), (0, 0), (0, 1), (0, 2), (0, 3), (1, 2), (1, 3), (1, 4), (1, 5), (0, 4), (1, 6), (1, 7), (1, 8), (1, 9), (0, 5), (0, 6), (0, 7), (0, 8), (0, 9)]), .inr (0, 700, 10, 0), .inr (0, 496, 710, 0), .inr (0, 496, 1206, 0), .inr (0, 496, 1702, 0), .inr (0, 3968, 2198, 0), .inr (0, 992, 6166, 0), .inr (1, 2, 7158, 0), .inr (0, 5, 7160, 0), .inr (0, 80, 7165, 0)]
def LSt : List bC := .inl (10, [(0, 0), (0, 1), (0, 2), (0, 3), (0, 4), (0, 5), (1, 1), (1, 20), (1, 34), (1, 37)]) :: (LFl.map (bSh 1 6) ++ (LBr.map (bSh 20 175) ++ (LOv.map (bSh 34 248) ++ LBa.map (bSh 37 277))))
def stO (i : Nat) : Nat := if i < 2 then 2 + 590 * i else 4 + 590 * i
def lSt (i : Nat) : List bC := LSt.map (bSh (stC i) (stO i))
def LX : List bC := .inl (12, [(2, 0), (2, 1), (1, 143), (1, 713), (1, 856), (1, 857), (1, 864)]) :: (lSt 0 ++ (lSt 1 ++ (.inl (7, [(0, 1182), (0, 1183), (1, 144)]) :: .inr (3, 8, 145, 71) :: (lSt 2 ++ (lSt 3 ++ (lSt 4 ++ (lSt 5 ++ (lSt 6 ++ (lSt 7 ++ (lSt 8 ++ (lSt 9 ++ (.inr (3, 2, 714, 71) :: (lSt 10 ++ (lSt 11 ++ (.inr (1, 2, 7084, 0) :: .inl (8, [(1, 858), (0, 7086), (0, 7087), (0, 7088), (2, 7089), (0, 7090), (0, 7091), (0, 7092), (1, 863)]) :: (LTx.map (bSh 858 7093) ++ [.inr (0, 3, 9899, 0), .inr (9, 0, 9902, 0), .inr (8, 0, 0, 0)]))))))))))))))))
theorem lenFl : LFl.length = 19 := by decide +kernel
theorem wfFl : bWf LFl := by unfold bWf; decide +kernel
theorem lc_Fl_0 : LFl[0]? = some (.inl (6, [(0, 0), (1, 1), (1, 2), (1, 3), (1, 10), (1, 17), (1, 18)])) := by decide +kernel
theorem lc_Fl_1 : LFl[1]? = some (.inr (0, 6, 1, 0)) := by decide +kernel
theorem lc_Fl_2 : LFl[2]? = some (.inr (0, 6, 7, 0)) := by decide +kernel
theorem lc_Fl_3 : LFl[3]? = some (.inr (2, 6, 4, 1)) := by decide +kernel
theorem lc_Fl_4 : LFl[4]? = some (.inr (0, 12, 13, 0)) := by decide +kernel
theorem lc_Fl_5 : LFl[5]? = some (.inr (0, 12, 25, 0)) := by decide +kernel
theorem lc_Fl_6 : LFl[6]? = some (.inr (0, 12, 37, 0)) := by decide +kernel
theorem lc_Fl_7 : LFl[7]? = some (.inr (0, 12, 49, 0)) := by decide +kernel
theorem lc_Fl_8 : LFl[8]? = some (.inr (0, 12, 61, 0)) := by decide +kernel
theorem lc_Fl_9 : LFl[9]? = some (.inr (0, 12, 73, 0)) := by decide +kernel
theorem lc_Fl_10 : LFl[10]? = some (.inr (2, 6, 11, 1)) := by decide +kernel
theorem lc_Fl_11 : LFl[11]? = some (.inr (0, 12, 85, 0)) := by decide +kernel
theorem lc_Fl_12 : LFl[12]? = some (.inr (0, 12, 97, 0)) := by decide +kernel
theorem lc_Fl_13 : LFl[13]? = some (.inr (0, 12, 109, 0)) := by decide +kernel
theorem lc_Fl_14 : LFl[14]? = some (.inr (0, 12, 121, 0)) := by decide +kernel
theorem lc_Fl_15 : LFl[15]? = some (.inr (0, 12, 133, 0)) := by decide +kernel
theorem lc_Fl_16 : LFl[16]? = some (.inr (0, 12, 145, 0)) := by decide +kernel
theorem lc_Fl_17 : LFl[17]? = some (.inr (0, 6, 157, 0)) := by decide +kernel
theorem lc_Fl_18 : LFl[18]? = some (.inr (0, 6, 163, 0)) := by decide +kernel
theorem lr_Fl_3 : ∀ i, i < 6 → LFl[4 + 1 * i]? = some (.inr (0, 12, 13 + 12 * i, 0))
  | 0, _ => by decide +kernel
  | 1, _ => by decide +kernel
  | 2, _ => by decide +kernel
  | 3, _ => by decide +kernel
  | 4, _ => by decide +kernel
  | 5, _ => by decide +kernel
  | i + 6, h => absurd h (by omega)
theorem lr_Fl_10 : ∀ i, i < 6 → LFl[11 + 1 * i]? = some (.inr (0, 12, 85 + 12 * i, 0))
  | 0, _ => by decide +kernel
  | 1, _ => by decide +kernel
  | 2, _ => by decide +kernel
  | 3, _ => by decide +kernel
  | 4, _ => by decide +kernel
  | 5, _ => by decide +kernel
  | i + 6, h => absurd h (by omega)
theorem lenBr : LBr.length = 14 := by decide +kernel
theorem wfBr : bWf LBr := by unfold bWf; decide +kernel
theorem lc_Br_0 : LBr[0]? = some (.inl (5, [(0, 0), (1, 1), (1, 2), (1, 3), (1, 4), (1, 5), (1, 6), (1, 7)])) := by decide +kernel
theorem lc_Br_1 : LBr[1]? = some (.inr (0, 6, 1, 0)) := by decide +kernel
theorem lc_Br_2 : LBr[2]? = some (.inr (0, 6, 7, 0)) := by decide +kernel
theorem lc_Br_3 : LBr[3]? = some (.inr (0, 6, 13, 0)) := by decide +kernel
theorem lc_Br_4 : LBr[4]? = some (.inr (0, 6, 19, 0)) := by decide +kernel
theorem lc_Br_5 : LBr[5]? = some (.inr (0, 6, 25, 0)) := by decide +kernel
theorem lc_Br_6 : LBr[6]? = some (.inr (0, 6, 31, 0)) := by decide +kernel
theorem lc_Br_7 : LBr[7]? = some (.inr (2, 6, 8, 1)) := by decide +kernel
theorem lc_Br_8 : LBr[8]? = some (.inr (0, 6, 37, 0)) := by decide +kernel
theorem lc_Br_9 : LBr[9]? = some (.inr (0, 6, 43, 0)) := by decide +kernel
theorem lc_Br_10 : LBr[10]? = some (.inr (0, 6, 49, 0)) := by decide +kernel
theorem lc_Br_11 : LBr[11]? = some (.inr (0, 6, 55, 0)) := by decide +kernel
theorem lc_Br_12 : LBr[12]? = some (.inr (0, 6, 61, 0)) := by decide +kernel
theorem lc_Br_13 : LBr[13]? = some (.inr (0, 6, 67, 0)) := by decide +kernel
theorem lr_Br_7 : ∀ i, i < 6 → LBr[8 + 1 * i]? = some (.inr (0, 6, 37 + 6 * i, 0))
  | 0, _ => by decide +kernel
  | 1, _ => by decide +kernel
  | 2, _ => by decide +kernel
  | 3, _ => by decide +kernel
  | 4, _ => by decide +kernel
  | 5, _ => by decide +kernel
  | i + 6, h => absurd h (by omega)
theorem lenOv : LOv.length = 3 := by decide +kernel
theorem wfOv : bWf LOv := by unfold bWf; decide +kernel
theorem lc_Ov_0 : LOv[0]? = some (.inl (9, [(0, 0), (0, 1), (1, 1), (1, 2)])) := by decide +kernel
theorem lc_Ov_1 : LOv[1]? = some (.inr (0, 3, 2, 0)) := by decide +kernel
theorem lc_Ov_2 : LOv[2]? = some (.inr (0, 24, 5, 0)) := by decide +kernel
theorem lenBa : LBa.length = 34 := by decide +kernel
theorem wfBa : bWf LBa := by unfold bWf; decide +kernel
theorem lc_Ba_0 : LBa[0]? = some (.inl (4, [(0, 0), (1, 1), (1, 2), (1, 3), (1, 4), (1, 5), (1, 6), (1, 7), (1, 8), (1, 9)])) := by decide +kernel
theorem lc_Ba_1 : LBa[1]? = some (.inr (0, 24, 1, 0)) := by decide +kernel
theorem lc_Ba_2 : LBa[2]? = some (.inr (0, 24, 25, 0)) := by decide +kernel
theorem lc_Ba_3 : LBa[3]? = some (.inr (0, 24, 49, 0)) := by decide +kernel
theorem lc_Ba_4 : LBa[4]? = some (.inr (0, 24, 73, 0)) := by decide +kernel
theorem lc_Ba_5 : LBa[5]? = some (.inr (0, 24, 97, 0)) := by decide +kernel
theorem lc_Ba_6 : LBa[6]? = some (.inr (0, 24, 121, 0)) := by decide +kernel
theorem lc_Ba_7 : LBa[7]? = some (.inr (0, 24, 145, 0)) := by decide +kernel
theorem lc_Ba_8 : LBa[8]? = some (.inr (0, 24, 169, 0)) := by decide +kernel
theorem lc_Ba_9 : LBa[9]? = some (.inr (2, 24, 10, 1)) := by decide +kernel
theorem lc_Ba_10 : LBa[10]? = some (.inr (0, 5, 193, 0)) := by decide +kernel
theorem lc_Ba_11 : LBa[11]? = some (.inr (0, 5, 198, 0)) := by decide +kernel
theorem lc_Ba_12 : LBa[12]? = some (.inr (0, 5, 203, 0)) := by decide +kernel
theorem lc_Ba_13 : LBa[13]? = some (.inr (0, 5, 208, 0)) := by decide +kernel
theorem lc_Ba_14 : LBa[14]? = some (.inr (0, 5, 213, 0)) := by decide +kernel
theorem lc_Ba_15 : LBa[15]? = some (.inr (0, 5, 218, 0)) := by decide +kernel
theorem lc_Ba_16 : LBa[16]? = some (.inr (0, 5, 223, 0)) := by decide +kernel
theorem lc_Ba_17 : LBa[17]? = some (.inr (0, 5, 228, 0)) := by decide +kernel
theorem lc_Ba_18 : LBa[18]? = some (.inr (0, 5, 233, 0)) := by decide +kernel
theorem lc_Ba_19 : LBa[19]? = some (.inr (0, 5, 238, 0)) := by decide +kernel
theorem lc_Ba_20 : LBa[20]? = some (.inr (0, 5, 243, 0)) := by decide +kernel
theorem lc_Ba_21 : LBa[21]? = some (.inr (0, 5, 248, 0)) := by decide +kernel
theorem lc_Ba_22 : LBa[22]? = some (.inr (0, 5, 253, 0)) := by decide +kernel
theorem lc_Ba_23 : LBa[23]? = some (.inr (0, 5, 258, 0)) := by decide +kernel
theorem lc_Ba_24 : LBa[24]? = some (.inr (0, 5, 263, 0)) := by decide +kernel
theorem lc_Ba_25 : LBa[25]? = some (.inr (0, 5, 268, 0)) := by decide +kernel
theorem lc_Ba_26 : LBa[26]? = some (.inr (0, 5, 273, 0)) := by decide +kernel
theorem lc_Ba_27 : LBa[27]? = some (.inr (0, 5, 278, 0)) := by decide +kernel
theorem lc_Ba_28 : LBa[28]? = some (.inr (0, 5, 283, 0)) := by decide +kernel
theorem lc_Ba_29 : LBa[29]? = some (.inr (0, 5, 288, 0)) := by decide +kernel
theorem lc_Ba_30 : LBa[30]? = some (.inr (0, 5, 293, 0)) := by decide +kernel
theorem lc_Ba_31 : LBa[31]? = some (.inr (0, 5, 298, 0)) := by decide +kernel
theorem lc_Ba_32 : LBa[32]? = some (.inr (0, 5, 303, 0)) := by decide +kernel
theorem lc_Ba_33 : LBa[33]? = some (.inr (0, 5, 308, 0)) := by decide +kernel
theorem lr_Ba_9 : ∀ i, i < 24 → LBa[10 + 1 * i]? = some (.inr (0, 5, 193 + 5 * i, 0))
  | 0, _ => by decide +kernel
  | 1, _ => by decide +kernel
  | 2, _ => by decide +kernel
  | 3, _ => by decide +kernel
  | 4, _ => by decide +kernel
  | 5, _ => by decide +kernel
  | 6, _ => by decide +kernel
  | 7, _ => by decide +kernel
  | 8, _ => by decide +kernel
  | 9, _ => by decide +kernel
  | 10, _ => by decide +kernel
  | 11, _ => by decide +kernel
  | 12, _ => by decide +kernel
  | 13, _ => by decide +kernel
  | 14, _ => by decide +kernel
  | 15, _ => by decide +kernel
  | 16, _ => by decide +kernel
  | 17, _ => by decide +kernel
  | 18, _ => by decide +kernel
  | 19, _ => by decide +kernel
  | 20, _ => by decide +kernel
  | 21, _ => by decide +kernel
  | 22, _ => by decide +kernel
  | 23, _ => by decide +kernel
  | i + 24, h => absurd h (by omega)
theorem lenTx : LTx.length = 5 := by decide +kernel
theorem wfTx : bWf LTx := by unfold bWf; decide +kernel
theorem lc_Tx_0 : LTx[0]? = some (.inl (11, [(0, 0), (0, 1), (0, 2), (1, 1), (1, 2), (1, 3), (1, 4)])) := by decide +kernel
theorem lc_Tx_1 : LTx[1]? = some (.inr (0, 700, 3, 0)) := by decide +kernel
theorem lc_Tx_2 : LTx[2]? = some (.inr (0, 701, 703, 0)) := by decide +kernel
theorem lc_Tx_3 : LTx[3]? = some (.inr (0, 701, 1404, 0)) := by decide +kernel
theorem lc_Tx_4 : LTx[4]? = some (.inr (0, 701, 2105, 0)) := by decide +kernel
theorem lenMo : LMo.length = 10 := by decide +kernel
theorem wfMo : bWf LMo := by unfold bWf; decide +kernel
theorem lc_Mo_0 : LMo[0]? = some (.inl (13, [(1, 1), (0, 0), (0, 1), (0, 2), (0, 3), (1, 2), (1, 3), (1, 4), (1, 5), (0, 4), (1, 6), (1, 7), (1, 8), (1, 9), (0, 5), (0, 6), (0, 7), (0, 8), (0, 9)])) := by decide +kernel
theorem lc_Mo_1 : LMo[1]? = some (.inr (0, 700, 10, 0)) := by decide +kernel
theorem lc_Mo_2 : LMo[2]? = some (.inr (0, 496, 710, 0)) := by decide +kernel
theorem lc_Mo_3 : LMo[3]? = some (.inr (0, 496, 1206, 0)) := by decide +kernel
theorem lc_Mo_4 : LMo[4]? = some (.inr (0, 496, 1702, 0)) := by decide +kernel
theorem lc_Mo_5 : LMo[5]? = some (.inr (0, 3968, 2198, 0)) := by decide +kernel
theorem lc_Mo_6 : LMo[6]? = some (.inr (0, 992, 6166, 0)) := by decide +kernel
theorem lc_Mo_7 : LMo[7]? = some (.inr (1, 2, 7158, 0)) := by decide +kernel
theorem lc_Mo_8 : LMo[8]? = some (.inr (0, 5, 7160, 0)) := by decide +kernel
theorem lc_Mo_9 : LMo[9]? = some (.inr (0, 80, 7165, 0)) := by decide +kernel
theorem lenSt : LSt.length = 71 := by decide +kernel
theorem wfSt : bWf LSt := by unfold bWf; decide +kernel
theorem lc_St_0 : LSt[0]? = some (.inl (10, [(0, 0), (0, 1), (0, 2), (0, 3), (0, 4), (0, 5), (1, 1), (1, 20), (1, 34), (1, 37)])) := by decide +kernel
theorem lc_St_1 : LSt[1]? = some (.inl (6, [(0, 6), (1, 2), (1, 3), (1, 4), (1, 11), (1, 18), (1, 19)])) := by decide +kernel
theorem lc_St_2 : LSt[2]? = some (.inr (0, 6, 7, 0)) := by decide +kernel
theorem lc_St_3 : LSt[3]? = some (.inr (0, 6, 13, 0)) := by decide +kernel
theorem lc_St_4 : LSt[4]? = some (.inr (2, 6, 5, 1)) := by decide +kernel
theorem lc_St_5 : LSt[5]? = some (.inr (0, 12, 19, 0)) := by decide +kernel
theorem lc_St_6 : LSt[6]? = some (.inr (0, 12, 31, 0)) := by decide +kernel
theorem lc_St_7 : LSt[7]? = some (.inr (0, 12, 43, 0)) := by decide +kernel
theorem lc_St_8 : LSt[8]? = some (.inr (0, 12, 55, 0)) := by decide +kernel
theorem lc_St_9 : LSt[9]? = some (.inr (0, 12, 67, 0)) := by decide +kernel
theorem lc_St_10 : LSt[10]? = some (.inr (0, 12, 79, 0)) := by decide +kernel
theorem lc_St_11 : LSt[11]? = some (.inr (2, 6, 12, 1)) := by decide +kernel
theorem lc_St_12 : LSt[12]? = some (.inr (0, 12, 91, 0)) := by decide +kernel
theorem lc_St_13 : LSt[13]? = some (.inr (0, 12, 103, 0)) := by decide +kernel
theorem lc_St_14 : LSt[14]? = some (.inr (0, 12, 115, 0)) := by decide +kernel
theorem lc_St_15 : LSt[15]? = some (.inr (0, 12, 127, 0)) := by decide +kernel
theorem lc_St_16 : LSt[16]? = some (.inr (0, 12, 139, 0)) := by decide +kernel
theorem lc_St_17 : LSt[17]? = some (.inr (0, 12, 151, 0)) := by decide +kernel
theorem lc_St_18 : LSt[18]? = some (.inr (0, 6, 163, 0)) := by decide +kernel
theorem lc_St_19 : LSt[19]? = some (.inr (0, 6, 169, 0)) := by decide +kernel
theorem lc_St_20 : LSt[20]? = some (.inl (5, [(0, 175), (1, 21), (1, 22), (1, 23), (1, 24), (1, 25), (1, 26), (1, 27)])) := by decide +kernel
theorem lc_St_21 : LSt[21]? = some (.inr (0, 6, 176, 0)) := by decide +kernel
theorem lc_St_22 : LSt[22]? = some (.inr (0, 6, 182, 0)) := by decide +kernel
theorem lc_St_23 : LSt[23]? = some (.inr (0, 6, 188, 0)) := by decide +kernel
theorem lc_St_24 : LSt[24]? = some (.inr (0, 6, 194, 0)) := by decide +kernel
theorem lc_St_25 : LSt[25]? = some (.inr (0, 6, 200, 0)) := by decide +kernel
theorem lc_St_26 : LSt[26]? = some (.inr (0, 6, 206, 0)) := by decide +kernel
theorem lc_St_27 : LSt[27]? = some (.inr (2, 6, 28, 1)) := by decide +kernel
theorem lc_St_28 : LSt[28]? = some (.inr (0, 6, 212, 0)) := by decide +kernel
theorem lc_St_29 : LSt[29]? = some (.inr (0, 6, 218, 0)) := by decide +kernel
theorem lc_St_30 : LSt[30]? = some (.inr (0, 6, 224, 0)) := by decide +kernel
theorem lc_St_31 : LSt[31]? = some (.inr (0, 6, 230, 0)) := by decide +kernel
theorem lc_St_32 : LSt[32]? = some (.inr (0, 6, 236, 0)) := by decide +kernel
theorem lc_St_33 : LSt[33]? = some (.inr (0, 6, 242, 0)) := by decide +kernel
theorem lc_St_34 : LSt[34]? = some (.inl (9, [(0, 248), (0, 249), (1, 35), (1, 36)])) := by decide +kernel
theorem lc_St_35 : LSt[35]? = some (.inr (0, 3, 250, 0)) := by decide +kernel
theorem lc_St_36 : LSt[36]? = some (.inr (0, 24, 253, 0)) := by decide +kernel
theorem lc_St_37 : LSt[37]? = some (.inl (4, [(0, 277), (1, 38), (1, 39), (1, 40), (1, 41), (1, 42), (1, 43), (1, 44), (1, 45), (1, 46)])) := by decide +kernel
theorem lc_St_38 : LSt[38]? = some (.inr (0, 24, 278, 0)) := by decide +kernel
theorem lc_St_39 : LSt[39]? = some (.inr (0, 24, 302, 0)) := by decide +kernel
theorem lc_St_40 : LSt[40]? = some (.inr (0, 24, 326, 0)) := by decide +kernel
theorem lc_St_41 : LSt[41]? = some (.inr (0, 24, 350, 0)) := by decide +kernel
theorem lc_St_42 : LSt[42]? = some (.inr (0, 24, 374, 0)) := by decide +kernel
theorem lc_St_43 : LSt[43]? = some (.inr (0, 24, 398, 0)) := by decide +kernel
theorem lc_St_44 : LSt[44]? = some (.inr (0, 24, 422, 0)) := by decide +kernel
theorem lc_St_45 : LSt[45]? = some (.inr (0, 24, 446, 0)) := by decide +kernel
theorem lc_St_46 : LSt[46]? = some (.inr (2, 24, 47, 1)) := by decide +kernel
theorem lc_St_47 : LSt[47]? = some (.inr (0, 5, 470, 0)) := by decide +kernel
theorem lc_St_48 : LSt[48]? = some (.inr (0, 5, 475, 0)) := by decide +kernel
theorem lc_St_49 : LSt[49]? = some (.inr (0, 5, 480, 0)) := by decide +kernel
theorem lc_St_50 : LSt[50]? = some (.inr (0, 5, 485, 0)) := by decide +kernel
theorem lc_St_51 : LSt[51]? = some (.inr (0, 5, 490, 0)) := by decide +kernel
theorem lc_St_52 : LSt[52]? = some (.inr (0, 5, 495, 0)) := by decide +kernel
theorem lc_St_53 : LSt[53]? = some (.inr (0, 5, 500, 0)) := by decide +kernel
theorem lc_St_54 : LSt[54]? = some (.inr (0, 5, 505, 0)) := by decide +kernel
theorem lc_St_55 : LSt[55]? = some (.inr (0, 5, 510, 0)) := by decide +kernel
theorem lc_St_56 : LSt[56]? = some (.inr (0, 5, 515, 0)) := by decide +kernel
theorem lc_St_57 : LSt[57]? = some (.inr (0, 5, 520, 0)) := by decide +kernel
theorem lc_St_58 : LSt[58]? = some (.inr (0, 5, 525, 0)) := by decide +kernel
theorem lc_St_59 : LSt[59]? = some (.inr (0, 5, 530, 0)) := by decide +kernel
theorem lc_St_60 : LSt[60]? = some (.inr (0, 5, 535, 0)) := by decide +kernel
theorem lc_St_61 : LSt[61]? = some (.inr (0, 5, 540, 0)) := by decide +kernel
theorem lc_St_62 : LSt[62]? = some (.inr (0, 5, 545, 0)) := by decide +kernel
theorem lc_St_63 : LSt[63]? = some (.inr (0, 5, 550, 0)) := by decide +kernel
theorem lc_St_64 : LSt[64]? = some (.inr (0, 5, 555, 0)) := by decide +kernel
theorem lc_St_65 : LSt[65]? = some (.inr (0, 5, 560, 0)) := by decide +kernel
theorem lc_St_66 : LSt[66]? = some (.inr (0, 5, 565, 0)) := by decide +kernel
theorem lc_St_67 : LSt[67]? = some (.inr (0, 5, 570, 0)) := by decide +kernel
theorem lc_St_68 : LSt[68]? = some (.inr (0, 5, 575, 0)) := by decide +kernel
theorem lc_St_69 : LSt[69]? = some (.inr (0, 5, 580, 0)) := by decide +kernel
theorem lc_St_70 : LSt[70]? = some (.inr (0, 5, 585, 0)) := by decide +kernel
theorem lr_St_4 : ∀ i, i < 6 → LSt[5 + 1 * i]? = some (.inr (0, 12, 19 + 12 * i, 0))
  | 0, _ => by decide +kernel
  | 1, _ => by decide +kernel
  | 2, _ => by decide +kernel
  | 3, _ => by decide +kernel
  | 4, _ => by decide +kernel
  | 5, _ => by decide +kernel
  | i + 6, h => absurd h (by omega)
theorem lr_St_11 : ∀ i, i < 6 → LSt[12 + 1 * i]? = some (.inr (0, 12, 91 + 12 * i, 0))
  | 0, _ => by decide +kernel
  | 1, _ => by decide +kernel
  | 2, _ => by decide +kernel
  | 3, _ => by decide +kernel
  | 4, _ => by decide +kernel
  | 5, _ => by decide +kernel
  | i + 6, h => absurd h (by omega)
theorem lr_St_27 : ∀ i, i < 6 → LSt[28 + 1 * i]? = some (.inr (0, 6, 212 + 6 * i, 0))
  | 0, _ => by decide +kernel
  | 1, _ => by decide +kernel
  | 2, _ => by decide +kernel
  | 3, _ => by decide +kernel
  | 4, _ => by decide +kernel
  | 5, _ => by decide +kernel
  | i + 6, h => absurd h (by omega)
theorem lr_St_46 : ∀ i, i < 24 → LSt[47 + 1 * i]? = some (.inr (0, 5, 470 + 5 * i, 0))
  | 0, _ => by decide +kernel
  | 1, _ => by decide +kernel
  | 2, _ => by decide +kernel
  | 3, _ => by decide +kernel
  | 4, _ => by decide +kernel
  | 5, _ => by decide +kernel
  | 6, _ => by decide +kernel
  | 7, _ => by decide +kernel
  | 8, _ => by decide +kernel
  | 9, _ => by decide +kernel
  | 10, _ => by decide +kernel
  | 11, _ => by decide +kernel
  | 12, _ => by decide +kernel
  | 13, _ => by decide +kernel
  | 14, _ => by decide +kernel
  | 15, _ => by decide +kernel
  | 16, _ => by decide +kernel
  | 17, _ => by decide +kernel
  | 18, _ => by decide +kernel
  | 19, _ => by decide +kernel
  | 20, _ => by decide +kernel
  | 21, _ => by decide +kernel
  | 22, _ => by decide +kernel
  | 23, _ => by decide +kernel
  | i + 24, h => absurd h (by omega)
theorem lenX : LX.length = 866 := by decide +kernel
theorem wfX : bWf LX := by unfold bWf; decide +kernel
theorem lc_X_0 : LX[0]? = some (.inl (12, [(2, 0), (2, 1), (1, 143), (1, 713), (1, 856), (1, 857), (1, 864)])) := by decide +kernel
theorem lc_X_143 : LX[143]? = some (.inl (7, [(0, 1182), (0, 1183), (1, 144)])) := by decide +kernel
theorem lc_X_144 : LX[144]? = some (.inr (3, 8, 145, 71)) := by decide +kernel
theorem lc_X_713 : LX[713]? = some (.inr (3, 2, 714, 71)) := by decide +kernel
theorem lc_X_856 : LX[856]? = some (.inr (1, 2, 7084, 0)) := by decide +kernel
theorem lc_X_857 : LX[857]? = some (.inl (8, [(1, 858), (0, 7086), (0, 7087), (0, 7088), (2, 7089), (0, 7090), (0, 7091), (0, 7092), (1, 863)])) := by decide +kernel
theorem lc_X_858 : LX[858]? = some (.inl (11, [(0, 7093), (0, 7094), (0, 7095), (1, 859), (1, 860), (1, 861), (1, 862)])) := by decide +kernel
theorem lc_X_859 : LX[859]? = some (.inr (0, 700, 7096, 0)) := by decide +kernel
theorem lc_X_860 : LX[860]? = some (.inr (0, 701, 7796, 0)) := by decide +kernel
theorem lc_X_861 : LX[861]? = some (.inr (0, 701, 8497, 0)) := by decide +kernel
theorem lc_X_862 : LX[862]? = some (.inr (0, 701, 9198, 0)) := by decide +kernel
theorem lc_X_863 : LX[863]? = some (.inr (0, 3, 9899, 0)) := by decide +kernel
theorem sub_St_1 : bSub LSt 1 6 169 LFl := by unfold bSub bWf; decide +kernel
theorem sub_St_20 : bSub LSt 20 175 73 LBr := by unfold bSub bWf; decide +kernel
theorem sub_St_34 : bSub LSt 34 248 29 LOv := by unfold bSub bWf; decide +kernel
theorem sub_St_37 : bSub LSt 37 277 313 LBa := by unfold bSub bWf; decide +kernel
theorem sub_X_858 : bSub LX 858 7093 2806 LTx := by unfold bSub bWf; decide +kernel
theorem subX_St : ∀ i, i < 12 → bSub LX (stC i) (stO i) 590 LSt
  | 0, _ => by unfold bSub bWf; decide +kernel
  | 1, _ => by unfold bSub bWf; decide +kernel
  | 2, _ => by unfold bSub bWf; decide +kernel
  | 3, _ => by unfold bSub bWf; decide +kernel
  | 4, _ => by unfold bSub bWf; decide +kernel
  | 5, _ => by unfold bSub bWf; decide +kernel
  | 6, _ => by unfold bSub bWf; decide +kernel
  | 7, _ => by unfold bSub bWf; decide +kernel
  | 8, _ => by unfold bSub bWf; decide +kernel
  | 9, _ => by unfold bSub bWf; decide +kernel
  | 10, _ => by unfold bSub bWf; decide +kernel
  | 11, _ => by unfold bSub bWf; decide +kernel
  | i + 12, h => absurd h (by omega)
theorem subX_St_1 : ∀ i, i < 12 → bSub LX (stC i + 1) (stO i + 6) 169 LFl
  | 0, _ => by unfold bSub bWf; decide +kernel
  | 1, _ => by unfold bSub bWf; decide +kernel
  | 2, _ => by unfold bSub bWf; decide +kernel
  | 3, _ => by unfold bSub bWf; decide +kernel
  | 4, _ => by unfold bSub bWf; decide +kernel
  | 5, _ => by unfold bSub bWf; decide +kernel
  | 6, _ => by unfold bSub bWf; decide +kernel
  | 7, _ => by unfold bSub bWf; decide +kernel
  | 8, _ => by unfold bSub bWf; decide +kernel
  | 9, _ => by unfold bSub bWf; decide +kernel
  | 10, _ => by unfold bSub bWf; decide +kernel
  | 11, _ => by unfold bSub bWf; decide +kernel
  | i + 12, h => absurd h (by omega)
theorem subX_St_20 : ∀ i, i < 12 → bSub LX (stC i + 20) (stO i + 175) 73 LBr
  | 0, _ => by unfold bSub bWf; decide +kernel
  | 1, _ => by unfold bSub bWf; decide +kernel
  | 2, _ => by unfold bSub bWf; decide +kernel
  | 3, _ => by unfold bSub bWf; decide +kernel
  | 4, _ => by unfold bSub bWf; decide +kernel
  | 5, _ => by unfold bSub bWf; decide +kernel
  | 6, _ => by unfold bSub bWf; decide +kernel
  | 7, _ => by unfold bSub bWf; decide +kernel
  | 8, _ => by unfold bSub bWf; decide +kernel
  | 9, _ => by unfold bSub bWf; decide +kernel
  | 10, _ => by unfold bSub bWf; decide +kernel
  | 11, _ => by unfold bSub bWf; decide +kernel
  | i + 12, h => absurd h (by omega)
theorem subX_St_34 : ∀ i, i < 12 → bSub LX (stC i + 34) (stO i + 248) 29 LOv
  | 0, _ => by unfold bSub bWf; decide +kernel
  | 1, _ => by unfold bSub bWf; decide +kernel
  | 2, _ => by unfold bSub bWf; decide +kernel
  | 3, _ => by unfold bSub bWf; decide +kernel
  | 4, _ => by unfold bSub bWf; decide +kernel
  | 5, _ => by unfold bSub bWf; decide +kernel
  | 6, _ => by unfold bSub bWf; decide +kernel
  | 7, _ => by unfold bSub bWf; decide +kernel
  | 8, _ => by unfold bSub bWf; decide +kernel
  | 9, _ => by unfold bSub bWf; decide +kernel
  | 10, _ => by unfold bSub bWf; decide +kernel
  | 11, _ => by unfold bSub bWf; decide +kernel
  | i + 12, h => absurd h (by omega)
theorem subX_St_37 : ∀ i, i < 12 → bSub LX (stC i + 37) (stO i + 277) 313 LBa
  | 0, _ => by unfold bSub bWf; decide +kernel
  | 1, _ => by unfold bSub bWf; decide +kernel
  | 2, _ => by unfold bSub bWf; decide +kernel
  | 3, _ => by unfold bSub bWf; decide +kernel
  | 4, _ => by unfold bSub bWf; decide +kernel
  | 5, _ => by unfold bSub bWf; decide +kernel
  | 6, _ => by unfold bSub bWf; decide +kernel
  | 7, _ => by unfold bSub bWf; decide +kernel
  | 8, _ => by unfold bSub bWf; decide +kernel
  | 9, _ => by unfold bSub bWf; decide +kernel
  | 10, _ => by unfold bSub bWf; decide +kernel
  | 11, _ => by unfold bSub bWf; decide +kernel
  | i + 12, h => absurd h (by omega)
def LA (n : Nat) : List bC := [.inr (0, n, 0, 0)]
theorem wfA (n : Nat) : bWf (LA n) := ⟨by unfold LA bSrt bHull; simp [bSrt], rfl, rfl⟩
