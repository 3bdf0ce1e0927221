theorem kwm {w : Cond} (i : Nat) (h : lw_tbl[i]? = some w) (g : goodWord w = true) : w ∈ TB := tb_in (List.mem_of_getElem? h) g
theorem kwt1 {w : Cond} (i : Nat) (h : tables_1_1[i]? = some w) (g : goodWord w = true) : w ∈ TB := tb_in (List.mem_append_right _ (List.mem_append_left _ (List.mem_of_getElem? h))) g
theorem kwt2 {w : Cond} (i : Nat) (h : tables_1_2[i]? = some w) (g : goodWord w = true) : w ∈ TB := tb_in (List.mem_append_right _ (List.mem_append_right _ (List.mem_append_left _ (List.mem_of_getElem? h)))) g
theorem kwt3 {w : Cond} (i : Nat) (h : tables_1_3[i]? = some w) (g : goodWord w = true) : w ∈ TB := tb_in (List.mem_append_right _ (List.mem_append_right _ (List.mem_append_right _ (List.mem_append_left _ (List.mem_of_getElem? h))))) g
theorem kwt4 {w : Cond} (i : Nat) (h : tables_1_4[i]? = some w) (g : goodWord w = true) : w ∈ TB := tb_in (List.mem_append_right _ (List.mem_append_right _ (List.mem_append_right _ (List.mem_append_right _ (List.mem_append_left _ (List.mem_of_getElem? h)))))) g
theorem kwt5 {w : Cond} (i : Nat) (h : tables_1_5[i]? = some w) (g : goodWord w = true) : w ∈ TB := tb_in (List.mem_append_right _ (List.mem_append_right _ (List.mem_append_right _ (List.mem_append_right _ (List.mem_append_right _ (List.mem_append_left _ (List.mem_of_getElem? h))))))) g
theorem kwt6 {w : Cond} (i : Nat) (h : tables_1_6[i]? = some w) (g : goodWord w = true) : w ∈ TB := tb_in (List.mem_append_right _ (List.mem_append_right _ (List.mem_append_right _ (List.mem_append_right _ (List.mem_append_right _ (List.mem_append_right _ (List.mem_append_left _ (List.mem_of_getElem? h)))))))) g
theorem kwt7 {w : Cond} (i : Nat) (h : tables_1_7[i]? = some w) (g : goodWord w = true) : w ∈ TB := tb_in (List.mem_append_right _ (List.mem_append_right _ (List.mem_append_right _ (List.mem_append_right _ (List.mem_append_right _ (List.mem_append_right _ (List.mem_append_right _ (List.mem_of_getElem? h)))))))) g
theorem kwp1 {w : Cond} (i : Nat) (h : (k2_sels lw_privs_1)[i]? = some w) (g : goodWord w = true) : w ∈ TB := by
  obtain ⟨q, h1, h2⟩ := List.mem_map.mp (List.mem_of_getElem? h)
  exact tb_in (List.mem_append_left _ (List.mem_map.mpr ⟨q, List.mem_append_left _ h1, h2⟩)) g
theorem kwp2 {w : Cond} (i : Nat) (h : (k2_sels lw_privs_2)[i]? = some w) (g : goodWord w = true) : w ∈ TB := by
  obtain ⟨q, h1, h2⟩ := List.mem_map.mp (List.mem_of_getElem? h)
  exact tb_in (List.mem_append_left _ (List.mem_map.mpr ⟨q, List.mem_append_right _ (List.mem_append_left _ h1), h2⟩)) g
theorem kwp3 {w : Cond} (i : Nat) (h : (k2_sels lw_privs_3)[i]? = some w) (g : goodWord w = true) : w ∈ TB := by
  obtain ⟨q, h1, h2⟩ := List.mem_map.mp (List.mem_of_getElem? h)
  exact tb_in (List.mem_append_left _ (List.mem_map.mpr ⟨q, List.mem_append_right _ (List.mem_append_right _ (List.mem_append_left _ h1)), h2⟩)) g
theorem kwp4 {w : Cond} (i : Nat) (h : (k2_sels lw_privs_4)[i]? = some w) (g : goodWord w = true) : w ∈ TB := by
  obtain ⟨q, h1, h2⟩ := List.mem_map.mp (List.mem_of_getElem? h)
  exact tb_in (List.mem_append_left _ (List.mem_map.mpr ⟨q, List.mem_append_right _ (List.mem_append_right _ (List.mem_append_right _ (List.mem_append_left _ h1))), h2⟩)) g
theorem kwp5 {w : Cond} (i : Nat) (h : (k2_sels lw_privs_5)[i]? = some w) (g : goodWord w = true) : w ∈ TB := by
  obtain ⟨q, h1, h2⟩ := List.mem_map.mp (List.mem_of_getElem? h)
  exact tb_in (List.mem_append_left _ (List.mem_map.mpr ⟨q, List.mem_append_right _ (List.mem_append_right _ (List.mem_append_right _ (List.mem_append_right _ (List.mem_append_left _ h1)))), h2⟩)) g
theorem kwp6 {w : Cond} (i : Nat) (h : (k2_sels lw_privs_6)[i]? = some w) (g : goodWord w = true) : w ∈ TB := by
  obtain ⟨q, h1, h2⟩ := List.mem_map.mp (List.mem_of_getElem? h)
  exact tb_in (List.mem_append_left _ (List.mem_map.mpr ⟨q, List.mem_append_right _ (List.mem_append_right _ (List.mem_append_right _ (List.mem_append_right _ (List.mem_append_right _ (h1))))), h2⟩)) g
set_option maxRecDepth 100000 in
theorem inX0 : ∀ w ∈ u_ws RX0 TX0 5, w ∈ TB := by
  intro w hw
  obtain ⟨j, hj, rfl⟩ := List.mem_map.mp hw
  have hj := List.mem_range.mp hj
  match j, hj with
  | 0, _ => exact (kwt1 154 (by rfl) rfl : Cond.laysFinal "DoorWalk$Doors" "DoorWalk$Doors" "way" "[I" ∈ TB)
  | 1, _ => exact (kwt1 156 (by rfl) rfl : Cond.laysFinal "DoorWalk$Doors" "DoorWalk$Doors" "seen" "[I" ∈ TB)
  | 2, _ => exact (kwt1 158 (by rfl) rfl : Cond.lays "DoorWalk$Doors" "DoorWalk$Doors" "length" "I" ∈ TB)
  | 3, _ => exact (kwt1 160 (by rfl) rfl : Cond.lays "DoorWalk$Doors" "DoorWalk$Doors" "cameOut" "Z" ∈ TB)
  | 4, _ => exact (kwt1 162 (by rfl) rfl : Cond.lays "DoorWalk$Doors" "DoorWalk$Doors" "longest" "I" ∈ TB)
  | j + 5, hj => exact absurd hj (by omega)
set_option maxRecDepth 100000 in
theorem inX1 : ∀ w ∈ u_ws RX1 TX1 6, w ∈ TB := by
  intro w hw
  obtain ⟨j, hj, rfl⟩ := List.mem_map.mp hw
  have hj := List.mem_range.mp hj
  match j, hj with
  | 0, _ => exact (kwt1 93 (by rfl) rfl : Cond.laysFinal "DoorWalk$Grid" "DoorWalk$Grid" "marks" "[I" ∈ TB)
  | 1, _ => exact (kwt1 95 (by rfl) rfl : Cond.lays "DoorWalk$Grid" "DoorWalk$Grid" "size" "I" ∈ TB)
  | 2, _ => exact (kwt1 97 (by rfl) rfl : Cond.lays "DoorWalk$Grid" "DoorWalk$Grid" "full" "I" ∈ TB)
  | 3, _ => exact (kwt1 99 (by rfl) rfl : Cond.lays "DoorWalk$Grid" "DoorWalk$Grid" "turns" "I" ∈ TB)
  | 4, _ => exact (kwt1 101 (by rfl) rfl : Cond.lays "DoorWalk$Grid" "DoorWalk$Grid" "firstFull" "I" ∈ TB)
  | 5, _ => exact (kwt1 103 (by rfl) rfl : Cond.lays "DoorWalk$Grid" "DoorWalk$Grid" "lastFull" "I" ∈ TB)
  | j + 6, hj => exact absurd hj (by omega)
set_option maxRecDepth 100000 in
theorem inX2 : ∀ w ∈ u_ws RX2 TX2 3, w ∈ TB := by
  intro w hw
  obtain ⟨j, hj, rfl⟩ := List.mem_map.mp hw
  have hj := List.mem_range.mp hj
  match j, hj with
  | 0, _ => exact (kwt1 177 (by rfl) rfl : Cond.laysFinal "DoorWalk$History" "DoorWalk$History" "ring" "[LDoorWalk$State;" ∈ TB)
  | 1, _ => exact (kwt1 179 (by rfl) rfl : Cond.lays "DoorWalk$History" "DoorWalk$History" "next" "I" ∈ TB)
  | 2, _ => exact (kwt1 181 (by rfl) rfl : Cond.lays "DoorWalk$History" "DoorWalk$History" "size" "I" ∈ TB)
  | j + 3, hj => exact absurd hj (by omega)
set_option maxRecDepth 100000 in
theorem inX3 : ∀ w ∈ u_ws RX3 TX3 2, w ∈ TB := by
  intro w hw
  obtain ⟨j, hj, rfl⟩ := List.mem_map.mp hw
  have hj := List.mem_range.mp hj
  match j, hj with
  | 0, _ => exact (kwt1 50 (by rfl) rfl : Cond.laysFinal "DoorWalk$Row" "DoorWalk$Row" "numbers" "[J" ∈ TB)
  | 1, _ => exact (kwt1 52 (by rfl) rfl : Cond.lays "DoorWalk$Row" "DoorWalk$Row" "length" "I" ∈ TB)
  | j + 2, hj => exact absurd hj (by omega)
set_option maxRecDepth 100000 in
theorem inX4 : ∀ w ∈ u_ws RX4 TX4 5, w ∈ TB := by
  intro w hw
  obtain ⟨j, hj, rfl⟩ := List.mem_map.mp hw
  have hj := List.mem_range.mp hj
  match j, hj with
  | 0, _ => exact (kwt1 119 (by rfl) rfl : Cond.laysFinal "DoorWalk$Rule" "DoorWalk$Rule" "owned" "[I" ∈ TB)
  | 1, _ => exact (kwt1 121 (by rfl) rfl : Cond.laysFinal "DoorWalk$Rule" "DoorWalk$Rule" "wished" "[I" ∈ TB)
  | 2, _ => exact (kwt1 123 (by rfl) rfl : Cond.laysFinal "DoorWalk$Rule" "DoorWalk$Rule" "pulls" "[J" ∈ TB)
  | 3, _ => exact (kwt1 125 (by rfl) rfl : Cond.lays "DoorWalk$Rule" "DoorWalk$Rule" "kind" "I" ∈ TB)
  | 4, _ => exact (kwt1 127 (by rfl) rfl : Cond.lays "DoorWalk$Rule" "DoorWalk$Rule" "traders" "I" ∈ TB)
  | j + 5, hj => exact absurd hj (by omega)
set_option maxRecDepth 100000 in
theorem inX5 : ∀ w ∈ u_ws RX5 TX5 2, w ∈ TB := by
  intro w hw
  obtain ⟨j, hj, rfl⟩ := List.mem_map.mp hw
  have hj := List.mem_range.mp hj
  match j, hj with
  | 0, _ => exact (kwt1 134 (by rfl) rfl : Cond.laysFinal "DoorWalk$State" "DoorWalk$State" "grid" "LDoorWalk$Grid;" ∈ TB)
  | 1, _ => exact (kwt1 136 (by rfl) rfl : Cond.laysFinal "DoorWalk$State" "DoorWalk$State" "rule" "LDoorWalk$Rule;" ∈ TB)
  | j + 2, hj => exact absurd hj (by omega)
set_option maxRecDepth 100000 in
theorem inX6 : ∀ w ∈ u_ws RX6 TX6 2, w ∈ TB := by
  intro w hw
  obtain ⟨j, hj, rfl⟩ := List.mem_map.mp hw
  have hj := List.mem_range.mp hj
  match j, hj with
  | 0, _ => exact (kwt1 35 (by rfl) rfl : Cond.laysFinal "DoorWalk$Text" "DoorWalk$Text" "signs" "[I" ∈ TB)
  | 1, _ => exact (kwt1 37 (by rfl) rfl : Cond.lays "DoorWalk$Text" "DoorWalk$Text" "length" "I" ∈ TB)
  | j + 2, hj => exact absurd hj (by omega)
set_option maxRecDepth 100000 in
theorem inX7 : ∀ w ∈ u_ws RX7 TX7 7, w ∈ TB := by
  intro w hw
  obtain ⟨j, hj, rfl⟩ := List.mem_map.mp hw
  have hj := List.mem_range.mp hj
  match j, hj with
  | 0, _ => exact (kwt1 191 (by rfl) rfl : Cond.laysFinal "DoorWalk" "DoorWalk" "text" "LDoorWalk$Text;" ∈ TB)
  | 1, _ => exact (kwt1 193 (by rfl) rfl : Cond.laysFinal "DoorWalk" "DoorWalk" "row" "LDoorWalk$Row;" ∈ TB)
  | 2, _ => exact (kwt1 195 (by rfl) rfl : Cond.laysFinal "DoorWalk" "DoorWalk" "now" "LDoorWalk$State;" ∈ TB)
  | 3, _ => exact (kwt1 197 (by rfl) rfl : Cond.laysFinal "DoorWalk" "DoorWalk" "trial" "LDoorWalk$Grid;" ∈ TB)
  | 4, _ => exact (kwt1 199 (by rfl) rfl : Cond.laysFinal "DoorWalk" "DoorWalk" "doors" "LDoorWalk$Doors;" ∈ TB)
  | 5, _ => exact (kwt1 201 (by rfl) rfl : Cond.laysFinal "DoorWalk" "DoorWalk" "history" "LDoorWalk$History;" ∈ TB)
  | 6, _ => exact (kwt1 203 (by rfl) rfl : Cond.laysFinal "DoorWalk" "DoorWalk" "kept" "[LDoorWalk$State;" ∈ TB)
  | j + 7, hj => exact absurd hj (by omega)
set_option maxRecDepth 100000 in
theorem inX8 : ∀ w ∈ u_ws RX8 TX8 26, w ∈ TB := by
  intro w hw
  obtain ⟨j, hj, rfl⟩ := List.mem_map.mp hw
  have hj := List.mem_range.mp hj
  match j, hj with
  | 0, _ => exact (kwt5 33 (by rfl) rfl : Cond.laysFinal "DoorWalkModel" "DoorWalkModel" "now" "[I" ∈ TB)
  | 1, _ => exact (kwt5 35 (by rfl) rfl : Cond.laysFinal "DoorWalkModel" "DoorWalkModel" "text" "[B" ∈ TB)
  | 2, _ => exact (kwt5 37 (by rfl) rfl : Cond.lays "DoorWalkModel" "DoorWalkModel" "typed" "I" ∈ TB)
  | 3, _ => exact (kwt5 39 (by rfl) rfl : Cond.laysFinal "DoorWalkModel" "DoorWalkModel" "row" "[J" ∈ TB)
  | 4, _ => exact (kwt5 41 (by rfl) rfl : Cond.lays "DoorWalkModel" "DoorWalkModel" "rowMany" "I" ∈ TB)
  | 5, _ => exact (kwt5 43 (by rfl) rfl : Cond.lays "DoorWalkModel" "DoorWalkModel" "thrown" "I" ∈ TB)
  | 6, _ => exact (kwt5 45 (by rfl) rfl : Cond.lays "DoorWalkModel" "DoorWalkModel" "length" "I" ∈ TB)
  | 7, _ => exact (kwt5 47 (by rfl) rfl : Cond.lays "DoorWalkModel" "DoorWalkModel" "at" "I" ∈ TB)
  | 8, _ => exact (kwt5 49 (by rfl) rfl : Cond.lays "DoorWalkModel" "DoorWalkModel" "wrong" "I" ∈ TB)
  | 9, _ => exact (kwt5 51 (by rfl) rfl : Cond.laysFinal "DoorWalkModel" "DoorWalkModel" "read" "[I" ∈ TB)
  | 10, _ => exact (kwt5 53 (by rfl) rfl : Cond.laysFinal "DoorWalkModel" "DoorWalkModel" "outerCell" "[I" ∈ TB)
  | 11, _ => exact (kwt5 55 (by rfl) rfl : Cond.laysFinal "DoorWalkModel" "DoorWalkModel" "outerDoor" "[I" ∈ TB)
  | 12, _ => exact (kwt5 57 (by rfl) rfl : Cond.lays "DoorWalkModel" "DoorWalkModel" "outerMany" "I" ∈ TB)
  | 13, _ => exact (kwt5 59 (by rfl) rfl : Cond.laysFinal "DoorWalkModel" "DoorWalkModel" "walked" "[I" ∈ TB)
  | 14, _ => exact (kwt5 61 (by rfl) rfl : Cond.lays "DoorWalkModel" "DoorWalkModel" "walkedMany" "I" ∈ TB)
  | 15, _ => exact (kwt5 63 (by rfl) rfl : Cond.lays "DoorWalkModel" "DoorWalkModel" "cameOut" "I" ∈ TB)
  | 16, _ => exact (kwt5 65 (by rfl) rfl : Cond.laysFinal "DoorWalkModel" "DoorWalkModel" "onWalks" "[I" ∈ TB)
  | 17, _ => exact (kwt5 67 (by rfl) rfl : Cond.laysFinal "DoorWalkModel" "DoorWalkModel" "far" "[I" ∈ TB)
  | 18, _ => exact (kwt5 69 (by rfl) rfl : Cond.laysFinal "DoorWalkModel" "DoorWalkModel" "aside" "[I" ∈ TB)
  | 19, _ => exact (kwt5 71 (by rfl) rfl : Cond.laysFinal "DoorWalkModel" "DoorWalkModel" "wasFull" "[Z" ∈ TB)
  | 20, _ => exact (kwt5 73 (by rfl) rfl : Cond.laysFinal "DoorWalkModel" "DoorWalkModel" "undos" "[I" ∈ TB)
  | 21, _ => exact (kwt5 75 (by rfl) rfl : Cond.laysFinal "DoorWalkModel" "DoorWalkModel" "was" "[I" ∈ TB)
  | 22, _ => exact (kwt5 77 (by rfl) rfl : Cond.lays "DoorWalkModel" "DoorWalkModel" "undoMany" "I" ∈ TB)
  | 23, _ => exact (kwt5 79 (by rfl) rfl : Cond.lays "DoorWalkModel" "DoorWalkModel" "drawn" "I" ∈ TB)
  | 24, _ => exact (kwt5 81 (by rfl) rfl : Cond.laysFinal "DoorWalkModel" "DoorWalkModel" "kept" "[I" ∈ TB)
  | 25, _ => exact (kwt5 83 (by rfl) rfl : Cond.laysFinal "DoorWalkModel" "DoorWalkModel" "isKept" "[Z" ∈ TB)
  | j + 26, hj => exact absurd hj (by omega)
set_option maxRecDepth 100000 in
theorem kf_X6_9 : Cond.fieldLink "DoorWalk$Text" 9 "DoorWalk$Text" "signs" "[I" ∈ TB := kwt1 32 (by rfl) rfl
set_option maxRecDepth 100000 in
theorem kf_X6_15 : Cond.fieldLink "DoorWalk$Text" 15 "DoorWalk$Text" "length" "I" ∈ TB := kwt1 33 (by rfl) rfl
set_option maxRecDepth 100000 in
theorem kf_X7_59 : Cond.fieldLink "DoorWalk" 59 "DoorWalk$Text" "length" "I" ∈ TB := kwt1 34 (by rfl) rfl
set_option maxRecDepth 100000 in
theorem kf_X3_9 : Cond.fieldLink "DoorWalk$Row" 9 "DoorWalk$Row" "numbers" "[J" ∈ TB := kwt1 47 (by rfl) rfl
set_option maxRecDepth 100000 in
theorem kf_X3_15 : Cond.fieldLink "DoorWalk$Row" 15 "DoorWalk$Row" "length" "I" ∈ TB := kwt1 48 (by rfl) rfl
set_option maxRecDepth 100000 in
theorem kf_X7_293 : Cond.fieldLink "DoorWalk" 293 "DoorWalk$Row" "length" "I" ∈ TB := kwt1 49 (by rfl) rfl
set_option maxRecDepth 100000 in
theorem kf_X1_9 : Cond.fieldLink "DoorWalk$Grid" 9 "DoorWalk$Grid" "marks" "[I" ∈ TB := kwt1 80 (by rfl) rfl
set_option maxRecDepth 100000 in
theorem kf_X1_15 : Cond.fieldLink "DoorWalk$Grid" 15 "DoorWalk$Grid" "size" "I" ∈ TB := kwt1 81 (by rfl) rfl
set_option maxRecDepth 100000 in
theorem kf_X0_50 : Cond.fieldLink "DoorWalk$Doors" 50 "DoorWalk$Grid" "size" "I" ∈ TB := kwt1 82 (by rfl) rfl
set_option maxRecDepth 100000 in
theorem kf_X4_85 : Cond.fieldLink "DoorWalk$Rule" 85 "DoorWalk$Grid" "size" "I" ∈ TB := kwt1 83 (by rfl) rfl
set_option maxRecDepth 100000 in
theorem kf_X7_198 : Cond.fieldLink "DoorWalk" 198 "DoorWalk$Grid" "size" "I" ∈ TB := kwt1 84 (by rfl) rfl
set_option maxRecDepth 100000 in
theorem kf_X1_19 : Cond.fieldLink "DoorWalk$Grid" 19 "DoorWalk$Grid" "full" "I" ∈ TB := kwt1 85 (by rfl) rfl
set_option maxRecDepth 100000 in
theorem kf_X7_180 : Cond.fieldLink "DoorWalk" 180 "DoorWalk$Grid" "full" "I" ∈ TB := kwt1 86 (by rfl) rfl
set_option maxRecDepth 100000 in
theorem kf_X1_22 : Cond.fieldLink "DoorWalk$Grid" 22 "DoorWalk$Grid" "turns" "I" ∈ TB := kwt1 87 (by rfl) rfl
set_option maxRecDepth 100000 in
theorem kf_X7_171 : Cond.fieldLink "DoorWalk" 171 "DoorWalk$Grid" "turns" "I" ∈ TB := kwt1 88 (by rfl) rfl
set_option maxRecDepth 100000 in
theorem kf_X1_25 : Cond.fieldLink "DoorWalk$Grid" 25 "DoorWalk$Grid" "firstFull" "I" ∈ TB := kwt1 89 (by rfl) rfl
set_option maxRecDepth 100000 in
theorem kf_X7_174 : Cond.fieldLink "DoorWalk" 174 "DoorWalk$Grid" "firstFull" "I" ∈ TB := kwt1 90 (by rfl) rfl
set_option maxRecDepth 100000 in
theorem kf_X1_28 : Cond.fieldLink "DoorWalk$Grid" 28 "DoorWalk$Grid" "lastFull" "I" ∈ TB := kwt1 91 (by rfl) rfl
set_option maxRecDepth 100000 in
theorem kf_X7_177 : Cond.fieldLink "DoorWalk" 177 "DoorWalk$Grid" "lastFull" "I" ∈ TB := kwt1 92 (by rfl) rfl
set_option maxRecDepth 100000 in
theorem kf_X4_9 : Cond.fieldLink "DoorWalk$Rule" 9 "DoorWalk$Rule" "owned" "[I" ∈ TB := kwt1 112 (by rfl) rfl
set_option maxRecDepth 100000 in
theorem kf_X4_15 : Cond.fieldLink "DoorWalk$Rule" 15 "DoorWalk$Rule" "wished" "[I" ∈ TB := kwt1 113 (by rfl) rfl
set_option maxRecDepth 100000 in
theorem kf_X4_18 : Cond.fieldLink "DoorWalk$Rule" 18 "DoorWalk$Rule" "pulls" "[J" ∈ TB := kwt1 114 (by rfl) rfl
set_option maxRecDepth 100000 in
theorem kf_X4_22 : Cond.fieldLink "DoorWalk$Rule" 22 "DoorWalk$Rule" "kind" "I" ∈ TB := kwt1 115 (by rfl) rfl
set_option maxRecDepth 100000 in
theorem kf_X7_85 : Cond.fieldLink "DoorWalk" 85 "DoorWalk$Rule" "kind" "I" ∈ TB := kwt1 116 (by rfl) rfl
set_option maxRecDepth 100000 in
theorem kf_X4_26 : Cond.fieldLink "DoorWalk$Rule" 26 "DoorWalk$Rule" "traders" "I" ∈ TB := kwt1 117 (by rfl) rfl
set_option maxRecDepth 100000 in
theorem kf_X7_319 : Cond.fieldLink "DoorWalk" 319 "DoorWalk$Rule" "traders" "I" ∈ TB := kwt1 118 (by rfl) rfl
set_option maxRecDepth 100000 in
theorem kf_X5_10 : Cond.fieldLink "DoorWalk$State" 10 "DoorWalk$State" "grid" "LDoorWalk$Grid;" ∈ TB := kwt1 130 (by rfl) rfl
set_option maxRecDepth 100000 in
theorem kf_X7_74 : Cond.fieldLink "DoorWalk" 74 "DoorWalk$State" "grid" "LDoorWalk$Grid;" ∈ TB := kwt1 131 (by rfl) rfl
set_option maxRecDepth 100000 in
theorem kf_X5_19 : Cond.fieldLink "DoorWalk$State" 19 "DoorWalk$State" "rule" "LDoorWalk$Rule;" ∈ TB := kwt1 132 (by rfl) rfl
set_option maxRecDepth 100000 in
theorem kf_X7_81 : Cond.fieldLink "DoorWalk" 81 "DoorWalk$State" "rule" "LDoorWalk$Rule;" ∈ TB := kwt1 133 (by rfl) rfl
set_option maxRecDepth 100000 in
theorem kf_X0_9 : Cond.fieldLink "DoorWalk$Doors" 9 "DoorWalk$Doors" "way" "[I" ∈ TB := kwt1 147 (by rfl) rfl
set_option maxRecDepth 100000 in
theorem kf_X0_15 : Cond.fieldLink "DoorWalk$Doors" 15 "DoorWalk$Doors" "seen" "[I" ∈ TB := kwt1 148 (by rfl) rfl
set_option maxRecDepth 100000 in
theorem kf_X0_18 : Cond.fieldLink "DoorWalk$Doors" 18 "DoorWalk$Doors" "length" "I" ∈ TB := kwt1 149 (by rfl) rfl
set_option maxRecDepth 100000 in
theorem kf_X7_236 : Cond.fieldLink "DoorWalk" 236 "DoorWalk$Doors" "length" "I" ∈ TB := kwt1 150 (by rfl) rfl
set_option maxRecDepth 100000 in
theorem kf_X0_22 : Cond.fieldLink "DoorWalk$Doors" 22 "DoorWalk$Doors" "cameOut" "Z" ∈ TB := kwt1 151 (by rfl) rfl
set_option maxRecDepth 100000 in
theorem kf_X0_26 : Cond.fieldLink "DoorWalk$Doors" 26 "DoorWalk$Doors" "longest" "I" ∈ TB := kwt1 152 (by rfl) rfl
set_option maxRecDepth 100000 in
theorem kf_X7_270 : Cond.fieldLink "DoorWalk" 270 "DoorWalk$Doors" "longest" "I" ∈ TB := kwt1 153 (by rfl) rfl
set_option maxRecDepth 100000 in
theorem kf_X2_11 : Cond.fieldLink "DoorWalk$History" 11 "DoorWalk$History" "ring" "[LDoorWalk$State;" ∈ TB := kwt1 173 (by rfl) rfl
set_option maxRecDepth 100000 in
theorem kf_X2_17 : Cond.fieldLink "DoorWalk$History" 17 "DoorWalk$History" "next" "I" ∈ TB := kwt1 174 (by rfl) rfl
set_option maxRecDepth 100000 in
theorem kf_X2_21 : Cond.fieldLink "DoorWalk$History" 21 "DoorWalk$History" "size" "I" ∈ TB := kwt1 175 (by rfl) rfl
set_option maxRecDepth 100000 in
theorem kf_X7_383 : Cond.fieldLink "DoorWalk" 383 "DoorWalk$History" "size" "I" ∈ TB := kwt1 176 (by rfl) rfl
set_option maxRecDepth 100000 in
theorem kf_X7_12 : Cond.fieldLink "DoorWalk" 12 "DoorWalk" "text" "LDoorWalk$Text;" ∈ TB := kwt1 184 (by rfl) rfl
set_option maxRecDepth 100000 in
theorem kf_X7_19 : Cond.fieldLink "DoorWalk" 19 "DoorWalk" "row" "LDoorWalk$Row;" ∈ TB := kwt1 185 (by rfl) rfl
set_option maxRecDepth 100000 in
theorem kf_X7_26 : Cond.fieldLink "DoorWalk" 26 "DoorWalk" "now" "LDoorWalk$State;" ∈ TB := kwt1 186 (by rfl) rfl
set_option maxRecDepth 100000 in
theorem kf_X7_33 : Cond.fieldLink "DoorWalk" 33 "DoorWalk" "trial" "LDoorWalk$Grid;" ∈ TB := kwt1 187 (by rfl) rfl
set_option maxRecDepth 100000 in
theorem kf_X7_40 : Cond.fieldLink "DoorWalk" 40 "DoorWalk" "doors" "LDoorWalk$Doors;" ∈ TB := kwt1 188 (by rfl) rfl
set_option maxRecDepth 100000 in
theorem kf_X7_47 : Cond.fieldLink "DoorWalk" 47 "DoorWalk" "history" "LDoorWalk$History;" ∈ TB := kwt1 189 (by rfl) rfl
set_option maxRecDepth 100000 in
theorem kf_X7_51 : Cond.fieldLink "DoorWalk" 51 "DoorWalk" "kept" "[LDoorWalk$State;" ∈ TB := kwt1 190 (by rfl) rfl
set_option maxRecDepth 100000 in
theorem kc_X3_35 : Cond.constantLong "DoorWalk$Row" 35 (-1) ∈ TB := kwt3 166 (by rfl) rfl
set_option maxRecDepth 100000 in
theorem kc_J6_265 : Cond.constant "java/lang/Integer" 265 1431655765 ∈ TB := kwt3 229 (by rfl) rfl
set_option maxRecDepth 100000 in
theorem kc_J6_266 : Cond.constant "java/lang/Integer" 266 858993459 ∈ TB := kwt3 230 (by rfl) rfl
set_option maxRecDepth 100000 in
theorem kc_J6_267 : Cond.constant "java/lang/Integer" 267 252645135 ∈ TB := kwt3 231 (by rfl) rfl
set_option maxRecDepth 100000 in
theorem kc_X7_348 : Cond.constantLong "DoorWalk" 348 (-1) ∈ TB := kwt4 33 (by rfl) rfl
set_option maxRecDepth 100000 in
theorem kc_X7_421 : Cond.constant "DoorWalk" 421 1103515245 ∈ TB := kwt4 116 (by rfl) rfl
set_option maxRecDepth 100000 in
theorem kf_X8_9 : Cond.fieldLink "DoorWalkModel" 9 "DoorWalkModel" "now" "[I" ∈ TB := kwt5 7 (by rfl) rfl
set_option maxRecDepth 100000 in
theorem kf_X8_13 : Cond.fieldLink "DoorWalkModel" 13 "DoorWalkModel" "text" "[B" ∈ TB := kwt5 8 (by rfl) rfl
set_option maxRecDepth 100000 in
theorem kf_X8_126 : Cond.fieldLink "DoorWalkModel" 126 "DoorWalkModel" "typed" "I" ∈ TB := kwt5 9 (by rfl) rfl
set_option maxRecDepth 100000 in
theorem kf_X8_17 : Cond.fieldLink "DoorWalkModel" 17 "DoorWalkModel" "row" "[J" ∈ TB := kwt5 10 (by rfl) rfl
set_option maxRecDepth 100000 in
theorem kf_X8_65 : Cond.fieldLink "DoorWalkModel" 65 "DoorWalkModel" "rowMany" "I" ∈ TB := kwt5 11 (by rfl) rfl
set_option maxRecDepth 100000 in
theorem kf_X8_61 : Cond.fieldLink "DoorWalkModel" 61 "DoorWalkModel" "thrown" "I" ∈ TB := kwt5 12 (by rfl) rfl
set_option maxRecDepth 100000 in
theorem kf_X8_129 : Cond.fieldLink "DoorWalkModel" 129 "DoorWalkModel" "length" "I" ∈ TB := kwt5 13 (by rfl) rfl
set_option maxRecDepth 100000 in
theorem kf_X8_132 : Cond.fieldLink "DoorWalkModel" 132 "DoorWalkModel" "at" "I" ∈ TB := kwt5 14 (by rfl) rfl
set_option maxRecDepth 100000 in
theorem kf_X8_135 : Cond.fieldLink "DoorWalkModel" 135 "DoorWalkModel" "wrong" "I" ∈ TB := kwt5 15 (by rfl) rfl
set_option maxRecDepth 100000 in
theorem kf_X8_21 : Cond.fieldLink "DoorWalkModel" 21 "DoorWalkModel" "read" "[I" ∈ TB := kwt5 16 (by rfl) rfl
set_option maxRecDepth 100000 in
theorem kf_X8_24 : Cond.fieldLink "DoorWalkModel" 24 "DoorWalkModel" "outerCell" "[I" ∈ TB := kwt5 17 (by rfl) rfl
set_option maxRecDepth 100000 in
theorem kf_X8_27 : Cond.fieldLink "DoorWalkModel" 27 "DoorWalkModel" "outerDoor" "[I" ∈ TB := kwt5 18 (by rfl) rfl
set_option maxRecDepth 100000 in
theorem kf_X8_241 : Cond.fieldLink "DoorWalkModel" 241 "DoorWalkModel" "outerMany" "I" ∈ TB := kwt5 19 (by rfl) rfl
set_option maxRecDepth 100000 in
theorem kf_X8_30 : Cond.fieldLink "DoorWalkModel" 30 "DoorWalkModel" "walked" "[I" ∈ TB := kwt5 20 (by rfl) rfl
set_option maxRecDepth 100000 in
theorem kf_X8_253 : Cond.fieldLink "DoorWalkModel" 253 "DoorWalkModel" "walkedMany" "I" ∈ TB := kwt5 21 (by rfl) rfl
set_option maxRecDepth 100000 in
theorem kf_X8_256 : Cond.fieldLink "DoorWalkModel" 256 "DoorWalkModel" "cameOut" "I" ∈ TB := kwt5 22 (by rfl) rfl
set_option maxRecDepth 100000 in
theorem kf_X8_33 : Cond.fieldLink "DoorWalkModel" 33 "DoorWalkModel" "onWalks" "[I" ∈ TB := kwt5 23 (by rfl) rfl
set_option maxRecDepth 100000 in
theorem kf_X8_36 : Cond.fieldLink "DoorWalkModel" 36 "DoorWalkModel" "far" "[I" ∈ TB := kwt5 24 (by rfl) rfl
set_option maxRecDepth 100000 in
theorem kf_X8_39 : Cond.fieldLink "DoorWalkModel" 39 "DoorWalkModel" "aside" "[I" ∈ TB := kwt5 25 (by rfl) rfl
set_option maxRecDepth 100000 in
theorem kf_X8_42 : Cond.fieldLink "DoorWalkModel" 42 "DoorWalkModel" "wasFull" "[Z" ∈ TB := kwt5 26 (by rfl) rfl
set_option maxRecDepth 100000 in
theorem kf_X8_46 : Cond.fieldLink "DoorWalkModel" 46 "DoorWalkModel" "undos" "[I" ∈ TB := kwt5 27 (by rfl) rfl
set_option maxRecDepth 100000 in
theorem kf_X8_49 : Cond.fieldLink "DoorWalkModel" 49 "DoorWalkModel" "was" "[I" ∈ TB := kwt5 28 (by rfl) rfl
set_option maxRecDepth 100000 in
theorem kf_X8_306 : Cond.fieldLink "DoorWalkModel" 306 "DoorWalkModel" "undoMany" "I" ∈ TB := kwt5 29 (by rfl) rfl
set_option maxRecDepth 100000 in
theorem kf_X8_343 : Cond.fieldLink "DoorWalkModel" 343 "DoorWalkModel" "drawn" "I" ∈ TB := kwt5 30 (by rfl) rfl
set_option maxRecDepth 100000 in
theorem kf_X8_52 : Cond.fieldLink "DoorWalkModel" 52 "DoorWalkModel" "kept" "[I" ∈ TB := kwt5 31 (by rfl) rfl
set_option maxRecDepth 100000 in
theorem kf_X8_55 : Cond.fieldLink "DoorWalkModel" 55 "DoorWalkModel" "isKept" "[Z" ∈ TB := kwt5 32 (by rfl) rfl
set_option maxRecDepth 100000 in
theorem kc_X8_186 : Cond.constantLong "DoorWalkModel" 186 2 ∈ TB := kwt5 229 (by rfl) rfl
set_option maxRecDepth 100000 in
theorem kc_X8_346 : Cond.constant "DoorWalkModel" 346 1103515245 ∈ TB := kwt7 66 (by rfl) rfl
set_option maxRecDepth 100000 in
theorem mv_X1_put : Cond.instanceMethod yX1_put ∈ TB ∧ Cond.selects "DoorWalk$Grid" yX1_put yX1_put ∈ TB ∧ Cond.initialized "DoorWalk$Grid" ∈ TB ∧ Cond.code yX1_put cX1_put 4 none ∈ TB ∧ "DoorWalk$Grid" ≠ "java/lang/invoke/MethodHandle" ∧ "DoorWalk$Grid" ≠ "java/lang/invoke/VarHandle" ∧ (parseMethodDescriptor "(III)V").map (fun d => d.parameters.length) = some 3 := ⟨kwt1 69 (by rfl) rfl, kwt1 70 (by rfl) rfl, kwt1 5 (by rfl) rfl, kwt1 71 (by rfl) rfl, by decide, by decide, by decide +kernel⟩
set_option maxRecDepth 100000 in
theorem cv_X1_31 : CWV "DoorWalk$Grid" 31 yX1_put cX1_put 4 none 3 := ⟨kwt1 68 (by rfl) rfl, mv_X1_put⟩
set_option maxRecDepth 100000 in
theorem mv_X1_numberOf : Cond.instanceMethod yX1_numberOf ∈ TB ∧ Cond.selects "DoorWalk$Grid" yX1_numberOf yX1_numberOf ∈ TB ∧ Cond.initialized "DoorWalk$Grid" ∈ TB ∧ Cond.code yX1_numberOf cX1_numberOf 3 (some .int) ∈ TB ∧ "DoorWalk$Grid" ≠ "java/lang/invoke/MethodHandle" ∧ "DoorWalk$Grid" ≠ "java/lang/invoke/VarHandle" ∧ (parseMethodDescriptor "(II)I").map (fun d => d.parameters.length) = some 2 := ⟨kwt1 73 (by rfl) rfl, kwt1 74 (by rfl) rfl, kwt1 5 (by rfl) rfl, kwt1 75 (by rfl) rfl, by decide, by decide, by decide +kernel⟩
set_option maxRecDepth 100000 in
theorem cv_X1_45 : CWV "DoorWalk$Grid" 45 yX1_numberOf cX1_numberOf 3 (some .int) 2 := ⟨kwt1 72 (by rfl) rfl, mv_X1_numberOf⟩
set_option maxRecDepth 100000 in
theorem mv_X1_putNumber : Cond.instanceMethod yX1_putNumber ∈ TB ∧ Cond.selects "DoorWalk$Grid" yX1_putNumber yX1_putNumber ∈ TB ∧ Cond.initialized "DoorWalk$Grid" ∈ TB ∧ Cond.code yX1_putNumber cX1_putNumber 3 none ∈ TB ∧ "DoorWalk$Grid" ≠ "java/lang/invoke/MethodHandle" ∧ "DoorWalk$Grid" ≠ "java/lang/invoke/VarHandle" ∧ (parseMethodDescriptor "(II)V").map (fun d => d.parameters.length) = some 2 := ⟨kwt1 77 (by rfl) rfl, kwt1 78 (by rfl) rfl, kwt1 5 (by rfl) rfl, kwt1 79 (by rfl) rfl, by decide, by decide, by decide +kernel⟩
set_option maxRecDepth 100000 in
theorem cv_X1_60 : CWV "DoorWalk$Grid" 60 yX1_putNumber cX1_putNumber 3 none 2 := ⟨kwt1 76 (by rfl) rfl, mv_X1_putNumber⟩
set_option maxRecDepth 100000 in
theorem mv_X7_sign : Cond.instanceMethod yX7_sign ∈ TB ∧ Cond.selects "DoorWalk" yX7_sign yX7_sign ∈ TB ∧ Cond.initialized "DoorWalk" ∈ TB ∧ Cond.code yX7_sign cX7_sign 2 (some .int) ∈ TB ∧ "DoorWalk" ≠ "java/lang/invoke/MethodHandle" ∧ "DoorWalk" ≠ "java/lang/invoke/VarHandle" ∧ (parseMethodDescriptor "(I)I").map (fun d => d.parameters.length) = some 1 := ⟨kwt1 207 (by rfl) rfl, kwt1 208 (by rfl) rfl, kwt1 1 (by rfl) rfl, kwt1 209 (by rfl) rfl, by decide, by decide, by decide +kernel⟩
set_option maxRecDepth 100000 in
theorem cv_L_27 : CWV "DoorWalkLaw" 27 yX7_sign cX7_sign 2 (some .int) 1 := ⟨kwt1 206 (by rfl) rfl, mv_X7_sign⟩
set_option maxRecDepth 100000 in
theorem mv_X6_push : Cond.instanceMethod yX6_push ∈ TB ∧ Cond.selects "DoorWalk$Text" yX6_push yX6_push ∈ TB ∧ Cond.initialized "DoorWalk$Text" ∈ TB ∧ Cond.code yX6_push cX6_push 2 (some .boolean) ∈ TB ∧ "DoorWalk$Text" ≠ "java/lang/invoke/MethodHandle" ∧ "DoorWalk$Text" ≠ "java/lang/invoke/VarHandle" ∧ (parseMethodDescriptor "(I)Z").map (fun d => d.parameters.length) = some 1 := ⟨kwt1 211 (by rfl) rfl, kwt1 212 (by rfl) rfl, kwt1 2 (by rfl) rfl, kwt1 213 (by rfl) rfl, by decide, by decide, by decide +kernel⟩
set_option maxRecDepth 100000 in
theorem cv_X7_55 : CWV "DoorWalk" 55 yX6_push cX6_push 2 (some .boolean) 1 := ⟨kwt1 210 (by rfl) rfl, mv_X6_push⟩
set_option maxRecDepth 100000 in
theorem mv_X7_end : Cond.instanceMethod yX7_end ∈ TB ∧ Cond.selects "DoorWalk" yX7_end yX7_end ∈ TB ∧ Cond.initialized "DoorWalk" ∈ TB ∧ Cond.code yX7_end cX7_end 2 (some .boolean) ∈ TB ∧ "DoorWalk" ≠ "java/lang/invoke/MethodHandle" ∧ "DoorWalk" ≠ "java/lang/invoke/VarHandle" ∧ (parseMethodDescriptor "(I)Z").map (fun d => d.parameters.length) = some 1 := ⟨kwt1 215 (by rfl) rfl, kwt1 216 (by rfl) rfl, kwt1 1 (by rfl) rfl, kwt1 217 (by rfl) rfl, by decide, by decide, by decide +kernel⟩
set_option maxRecDepth 100000 in
theorem cv_L_32 : CWV "DoorWalkLaw" 32 yX7_end cX7_end 2 (some .boolean) 1 := ⟨kwt1 214 (by rfl) rfl, mv_X7_end⟩
set_option maxRecDepth 100000 in
theorem mv_X7_labels : Cond.instanceMethod yX7_labels ∈ TB ∧ Cond.selects "DoorWalk" yX7_labels yX7_labels ∈ TB ∧ Cond.initialized "DoorWalk" ∈ TB ∧ Cond.code yX7_labels cX7_labels 2 (some .int) ∈ TB ∧ "DoorWalk" ≠ "java/lang/invoke/MethodHandle" ∧ "DoorWalk" ≠ "java/lang/invoke/VarHandle" ∧ (parseMethodDescriptor "()I").map (fun d => d.parameters.length) = some 0 := ⟨kwt1 219 (by rfl) rfl, kwt1 220 (by rfl) rfl, kwt1 1 (by rfl) rfl, kwt1 221 (by rfl) rfl, by decide, by decide, by decide +kernel⟩
set_option maxRecDepth 100000 in
theorem cv_L_37 : CWV "DoorWalkLaw" 37 yX7_labels cX7_labels 2 (some .int) 0 := ⟨kwt1 218 (by rfl) rfl, mv_X7_labels⟩
set_option maxRecDepth 100000 in
theorem mv_X7_readLabels : Cond.instanceMethod yX7_readLabels ∈ TB ∧ Cond.selects "DoorWalk" yX7_readLabels yX7_readLabels ∈ TB ∧ Cond.initialized "DoorWalk" ∈ TB ∧ Cond.code yX7_readLabels cX7_readLabels 4 (some .int) ∈ TB ∧ "DoorWalk" ≠ "java/lang/invoke/MethodHandle" ∧ "DoorWalk" ≠ "java/lang/invoke/VarHandle" ∧ (parseMethodDescriptor "()I").map (fun d => d.parameters.length) = some 0 := ⟨kwt1 224 (by rfl) rfl, kwp1 0 (by rfl) rfl, kwt1 1 (by rfl) rfl, kwt1 225 (by rfl) rfl, by decide, by decide, by decide +kernel⟩
set_option maxRecDepth 100000 in
theorem cv_X7_63 : CWV "DoorWalk" 63 yX7_readLabels cX7_readLabels 4 (some .int) 0 := ⟨kwt1 222 (by rfl) rfl, mv_X7_readLabels⟩
set_option maxRecDepth 100000 in
theorem mv_X6_digit : Cond.instanceMethod yX6_digit ∈ TB ∧ Cond.selects "DoorWalk$Text" yX6_digit yX6_digit ∈ TB ∧ Cond.initialized "DoorWalk$Text" ∈ TB ∧ Cond.code yX6_digit cX6_digit 3 (some .int) ∈ TB ∧ "DoorWalk$Text" ≠ "java/lang/invoke/MethodHandle" ∧ "DoorWalk$Text" ≠ "java/lang/invoke/VarHandle" ∧ (parseMethodDescriptor "(I)I").map (fun d => d.parameters.length) = some 1 := ⟨kwt1 227 (by rfl) rfl, kwt1 228 (by rfl) rfl, kwt1 2 (by rfl) rfl, kwt1 229 (by rfl) rfl, by decide, by decide, by decide +kernel⟩
set_option maxRecDepth 100000 in
theorem cv_X7_406 : CWV "DoorWalk" 406 yX6_digit cX6_digit 3 (some .int) 1 := ⟨kwt1 226 (by rfl) rfl, mv_X6_digit⟩
set_option maxRecDepth 100000 in
theorem mv_X6_at : Cond.instanceMethod yX6_at ∈ TB ∧ Cond.selects "DoorWalk$Text" yX6_at yX6_at ∈ TB ∧ Cond.initialized "DoorWalk$Text" ∈ TB ∧ Cond.code yX6_at cX6_at 2 (some .int) ∈ TB ∧ "DoorWalk$Text" ≠ "java/lang/invoke/MethodHandle" ∧ "DoorWalk$Text" ≠ "java/lang/invoke/VarHandle" ∧ (parseMethodDescriptor "(I)I").map (fun d => d.parameters.length) = some 1 := ⟨kwt1 231 (by rfl) rfl, kwt1 232 (by rfl) rfl, kwt1 2 (by rfl) rfl, kwt1 233 (by rfl) rfl, by decide, by decide, by decide +kernel⟩
set_option maxRecDepth 100000 in
theorem cv_X6_19 : CWV "DoorWalk$Text" 19 yX6_at cX6_at 2 (some .int) 1 := ⟨kwt1 230 (by rfl) rfl, mv_X6_at⟩
set_option maxRecDepth 100000 in
theorem mv_X6_twoDigits : Cond.instanceMethod yX6_twoDigits ∈ TB ∧ Cond.selects "DoorWalk$Text" yX6_twoDigits yX6_twoDigits ∈ TB ∧ Cond.initialized "DoorWalk$Text" ∈ TB ∧ Cond.code yX6_twoDigits cX6_twoDigits 2 (some .int) ∈ TB ∧ "DoorWalk$Text" ≠ "java/lang/invoke/MethodHandle" ∧ "DoorWalk$Text" ≠ "java/lang/invoke/VarHandle" ∧ (parseMethodDescriptor "(I)I").map (fun d => d.parameters.length) = some 1 := ⟨kwt1 235 (by rfl) rfl, kwt1 236 (by rfl) rfl, kwt1 2 (by rfl) rfl, kwt1 237 (by rfl) rfl, by decide, by decide, by decide +kernel⟩
set_option maxRecDepth 100000 in
theorem cv_X7_409 : CWV "DoorWalk" 409 yX6_twoDigits cX6_twoDigits 2 (some .int) 1 := ⟨kwt1 234 (by rfl) rfl, mv_X6_twoDigits⟩
set_option maxRecDepth 100000 in
theorem cv_X6_23 : CWV "DoorWalk$Text" 23 yX6_digit cX6_digit 3 (some .int) 1 := ⟨kwt1 238 (by rfl) rfl, mv_X6_digit⟩
set_option maxRecDepth 100000 in
theorem mv_X1_canHave : Cond.instanceMethod yX1_canHave ∈ TB ∧ Cond.selects "DoorWalk$Grid" yX1_canHave yX1_canHave ∈ TB ∧ Cond.initialized "DoorWalk$Grid" ∈ TB ∧ Cond.code yX1_canHave cX1_canHave 4 (some .boolean) ∈ TB ∧ "DoorWalk$Grid" ≠ "java/lang/invoke/MethodHandle" ∧ "DoorWalk$Grid" ≠ "java/lang/invoke/VarHandle" ∧ (parseMethodDescriptor "(III)Z").map (fun d => d.parameters.length) = some 3 := ⟨kwt2 0 (by rfl) rfl, kwt2 1 (by rfl) rfl, kwt1 5 (by rfl) rfl, kwt2 2 (by rfl) rfl, by decide, by decide, by decide +kernel⟩
set_option maxRecDepth 100000 in
theorem cv_X7_331 : CWV "DoorWalk" 331 yX1_canHave cX1_canHave 4 (some .boolean) 3 := ⟨kwt1 239 (by rfl) rfl, mv_X1_canHave⟩
set_option maxRecDepth 100000 in
theorem ms_X7_isGood : Cond.static yX7_isGood ∈ TB ∧ Cond.initialized "DoorWalk" ∈ TB ∧ Cond.code yX7_isGood cX7_isGood 1 (some .boolean) ∈ TB ∧ "DoorWalk" ≠ "java/lang/invoke/MethodHandle" ∧ "DoorWalk" ≠ "java/lang/invoke/VarHandle" ∧ (parseMethodDescriptor "(I)Z").map (fun d => d.parameters.length) = some 1 := ⟨kwt2 4 (by rfl) rfl, kwt1 1 (by rfl) rfl, kwt2 5 (by rfl) rfl, by decide, by decide, by decide +kernel⟩
theorem cn_X1_49 : CWN "DoorWalk$Grid" 49 yX7_isGood cX7_isGood 1 (some .boolean) 1 := ⟨by simp [nbM], ms_X7_isGood⟩
set_option maxRecDepth 100000 in
theorem mv_X1_price : Cond.instanceMethod yX1_price ∈ TB ∧ Cond.selects "DoorWalk$Grid" yX1_price yX1_price ∈ TB ∧ Cond.initialized "DoorWalk$Grid" ∈ TB ∧ Cond.code yX1_price cX1_price 4 (some .int) ∈ TB ∧ "DoorWalk$Grid" ≠ "java/lang/invoke/MethodHandle" ∧ "DoorWalk$Grid" ≠ "java/lang/invoke/VarHandle" ∧ (parseMethodDescriptor "(III)I").map (fun d => d.parameters.length) = some 3 := ⟨kwt2 7 (by rfl) rfl, kwt2 8 (by rfl) rfl, kwt1 5 (by rfl) rfl, kwt2 9 (by rfl) rfl, by decide, by decide, by decide +kernel⟩
set_option maxRecDepth 100000 in
theorem cv_X1_53 : CWV "DoorWalk$Grid" 53 yX1_price cX1_price 4 (some .int) 3 := ⟨kwt2 6 (by rfl) rfl, mv_X1_price⟩
set_option maxRecDepth 100000 in
theorem cv_X7_335 : CWV "DoorWalk" 335 yX1_put cX1_put 4 none 3 := ⟨kwt2 10 (by rfl) rfl, mv_X1_put⟩
set_option maxRecDepth 100000 in
theorem mv_X2_note : Cond.instanceMethod yX2_note ∈ TB ∧ Cond.selects "DoorWalk$History" yX2_note yX2_note ∈ TB ∧ Cond.initialized "DoorWalk$History" ∈ TB ∧ Cond.code yX2_note cX2_note 2 none ∈ TB ∧ "DoorWalk$History" ≠ "java/lang/invoke/MethodHandle" ∧ "DoorWalk$History" ≠ "java/lang/invoke/VarHandle" ∧ (parseMethodDescriptor "(LDoorWalk$State;)V").map (fun d => d.parameters.length) = some 1 := ⟨kwt2 12 (by rfl) rfl, kwt2 13 (by rfl) rfl, kwt1 8 (by rfl) rfl, kwt2 14 (by rfl) rfl, by decide, by decide, by decide +kernel⟩
set_option maxRecDepth 100000 in
theorem cv_X7_67 : CWV "DoorWalk" 67 yX2_note cX2_note 2 none 1 := ⟨kwt2 11 (by rfl) rfl, mv_X2_note⟩
set_option maxRecDepth 100000 in
theorem mv_X5_copy : Cond.instanceMethod yX5_copy ∈ TB ∧ Cond.selects "DoorWalk$State" yX5_copy yX5_copy ∈ TB ∧ Cond.initialized "DoorWalk$State" ∈ TB ∧ Cond.code yX5_copy cX5_copy 2 none ∈ TB ∧ "DoorWalk$State" ≠ "java/lang/invoke/MethodHandle" ∧ "DoorWalk$State" ≠ "java/lang/invoke/VarHandle" ∧ (parseMethodDescriptor "(LDoorWalk$State;)V").map (fun d => d.parameters.length) = some 1 := ⟨kwt2 17 (by rfl) rfl, kwt2 18 (by rfl) rfl, kwt1 4 (by rfl) rfl, kwt2 19 (by rfl) rfl, by decide, by decide, by decide +kernel⟩
set_option maxRecDepth 100000 in
theorem cv_X2_25 : CWV "DoorWalk$History" 25 yX5_copy cX5_copy 2 none 1 := ⟨kwt2 16 (by rfl) rfl, mv_X5_copy⟩
set_option maxRecDepth 100000 in
theorem mv_X1_copy : Cond.instanceMethod yX1_copy ∈ TB ∧ Cond.selects "DoorWalk$Grid" yX1_copy yX1_copy ∈ TB ∧ Cond.initialized "DoorWalk$Grid" ∈ TB ∧ Cond.code yX1_copy cX1_copy 2 none ∈ TB ∧ "DoorWalk$Grid" ≠ "java/lang/invoke/MethodHandle" ∧ "DoorWalk$Grid" ≠ "java/lang/invoke/VarHandle" ∧ (parseMethodDescriptor "(LDoorWalk$Grid;)V").map (fun d => d.parameters.length) = some 1 := ⟨kwt2 21 (by rfl) rfl, kwt2 22 (by rfl) rfl, kwt1 5 (by rfl) rfl, kwt2 23 (by rfl) rfl, by decide, by decide, by decide +kernel⟩
set_option maxRecDepth 100000 in
theorem cv_X5_23 : CWV "DoorWalk$State" 23 yX1_copy cX1_copy 2 none 1 := ⟨kwt2 20 (by rfl) rfl, mv_X1_copy⟩
set_option maxRecDepth 100000 in
theorem mv_X4_copy : Cond.instanceMethod yX4_copy ∈ TB ∧ Cond.selects "DoorWalk$Rule" yX4_copy yX4_copy ∈ TB ∧ Cond.initialized "DoorWalk$Rule" ∈ TB ∧ Cond.code yX4_copy cX4_copy 2 none ∈ TB ∧ "DoorWalk$Rule" ≠ "java/lang/invoke/MethodHandle" ∧ "DoorWalk$Rule" ≠ "java/lang/invoke/VarHandle" ∧ (parseMethodDescriptor "(LDoorWalk$Rule;)V").map (fun d => d.parameters.length) = some 1 := ⟨kwt2 28 (by rfl) rfl, kwt2 29 (by rfl) rfl, kwt1 6 (by rfl) rfl, kwt2 30 (by rfl) rfl, by decide, by decide, by decide +kernel⟩
set_option maxRecDepth 100000 in
theorem cv_X5_27 : CWV "DoorWalk$State" 27 yX4_copy cX4_copy 2 none 1 := ⟨kwt2 27 (by rfl) rfl, mv_X4_copy⟩
set_option maxRecDepth 100000 in
theorem mv_X2_hold : Cond.instanceMethod yX2_hold ∈ TB ∧ Cond.selects "DoorWalk$History" yX2_hold yX2_hold ∈ TB ∧ Cond.initialized "DoorWalk$History" ∈ TB ∧ Cond.code yX2_hold cX2_hold 1 none ∈ TB ∧ "DoorWalk$History" ≠ "java/lang/invoke/MethodHandle" ∧ "DoorWalk$History" ≠ "java/lang/invoke/VarHandle" ∧ (parseMethodDescriptor "()V").map (fun d => d.parameters.length) = some 0 := ⟨kwt2 33 (by rfl) rfl, kwt2 34 (by rfl) rfl, kwt1 8 (by rfl) rfl, kwt2 35 (by rfl) rfl, by decide, by decide, by decide +kernel⟩
set_option maxRecDepth 100000 in
theorem cv_X7_71 : CWV "DoorWalk" 71 yX2_hold cX2_hold 1 none 0 := ⟨kwt2 32 (by rfl) rfl, mv_X2_hold⟩
set_option maxRecDepth 100000 in
theorem ms_J9_min_7cf53 : Cond.static yJ9_min_7cf53 ∈ TB ∧ Cond.initialized "java/lang/Math" ∈ TB ∧ Cond.code yJ9_min_7cf53 cJ9_min_7cf53 2 (some .int) ∈ TB ∧ "java/lang/Math" ≠ "java/lang/invoke/MethodHandle" ∧ "java/lang/Math" ≠ "java/lang/invoke/VarHandle" ∧ (parseMethodDescriptor "(II)I").map (fun d => d.parameters.length) = some 2 := ⟨kwt2 37 (by rfl) rfl, kwt1 11 (by rfl) rfl, kwt2 38 (by rfl) rfl, by decide, by decide, by decide +kernel⟩
set_option maxRecDepth 100000 in
theorem cs_X2_29 : CWS "DoorWalk$History" 29 yJ9_min_7cf53 cJ9_min_7cf53 2 (some .int) 2 := ⟨kwt2 36 (by rfl) rfl, ms_J9_min_7cf53⟩
set_option maxRecDepth 100000 in
theorem cv_X7_77 : CWV "DoorWalk" 77 yX1_copy cX1_copy 2 none 1 := ⟨kwt2 39 (by rfl) rfl, mv_X1_copy⟩
set_option maxRecDepth 100000 in
theorem mv_X1_points : Cond.instanceMethod yX1_points ∈ TB ∧ Cond.selects "DoorWalk$Grid" yX1_points yX1_points ∈ TB ∧ Cond.initialized "DoorWalk$Grid" ∈ TB ∧ Cond.code yX1_points cX1_points 1 (some .int) ∈ TB ∧ "DoorWalk$Grid" ≠ "java/lang/invoke/MethodHandle" ∧ "DoorWalk$Grid" ≠ "java/lang/invoke/VarHandle" ∧ (parseMethodDescriptor "()I").map (fun d => d.parameters.length) = some 0 := ⟨kwt2 41 (by rfl) rfl, kwt2 42 (by rfl) rfl, kwt1 5 (by rfl) rfl, kwt2 43 (by rfl) rfl, by decide, by decide, by decide +kernel⟩
set_option maxRecDepth 100000 in
theorem cv_X7_90 : CWV "DoorWalk" 90 yX1_points cX1_points 1 (some .int) 0 := ⟨kwt2 40 (by rfl) rfl, mv_X1_points⟩
set_option maxRecDepth 100000 in
theorem mv_X7_exchange : Cond.instanceMethod yX7_exchange ∈ TB ∧ Cond.selects "DoorWalk" yX7_exchange yX7_exchange ∈ TB ∧ Cond.initialized "DoorWalk" ∈ TB ∧ Cond.code yX7_exchange cX7_exchange 3 (some .int) ∈ TB ∧ "DoorWalk" ≠ "java/lang/invoke/MethodHandle" ∧ "DoorWalk" ≠ "java/lang/invoke/VarHandle" ∧ (parseMethodDescriptor "()I").map (fun d => d.parameters.length) = some 0 := ⟨kwt2 45 (by rfl) rfl, kwt2 46 (by rfl) rfl, kwt1 1 (by rfl) rfl, kwt2 47 (by rfl) rfl, by decide, by decide, by decide +kernel⟩
set_option maxRecDepth 100000 in
theorem cv_L_42 : CWV "DoorWalkLaw" 42 yX7_exchange cX7_exchange 3 (some .int) 0 := ⟨kwt2 44 (by rfl) rfl, mv_X7_exchange⟩
set_option maxRecDepth 100000 in
theorem mv_X7_wrongInExchange : Cond.instanceMethod yX7_wrongInExchange ∈ TB ∧ Cond.selects "DoorWalk" yX7_wrongInExchange yX7_wrongInExchange ∈ TB ∧ Cond.initialized "DoorWalk" ∈ TB ∧ Cond.code yX7_wrongInExchange cX7_wrongInExchange 6 (some .int) ∈ TB ∧ "DoorWalk" ≠ "java/lang/invoke/MethodHandle" ∧ "DoorWalk" ≠ "java/lang/invoke/VarHandle" ∧ (parseMethodDescriptor "()I").map (fun d => d.parameters.length) = some 0 := ⟨kwt2 50 (by rfl) rfl, kwp1 1 (by rfl) rfl, kwt1 1 (by rfl) rfl, kwt2 51 (by rfl) rfl, by decide, by decide, by decide +kernel⟩
set_option maxRecDepth 100000 in
theorem cv_X7_93 : CWV "DoorWalk" 93 yX7_wrongInExchange cX7_wrongInExchange 6 (some .int) 0 := ⟨kwt2 48 (by rfl) rfl, mv_X7_wrongInExchange⟩
set_option maxRecDepth 100000 in
theorem cv_X7_374 : CWV "DoorWalk" 374 yX6_at cX6_at 2 (some .int) 1 := ⟨kwt2 52 (by rfl) rfl, mv_X6_at⟩
set_option maxRecDepth 100000 in
theorem mv_X4_readExchange : Cond.instanceMethod yX4_readExchange ∈ TB ∧ Cond.selects "DoorWalk$Rule" yX4_readExchange yX4_readExchange ∈ TB ∧ Cond.initialized "DoorWalk$Rule" ∈ TB ∧ Cond.code yX4_readExchange cX4_readExchange 5 none ∈ TB ∧ "DoorWalk$Rule" ≠ "java/lang/invoke/MethodHandle" ∧ "DoorWalk$Rule" ≠ "java/lang/invoke/VarHandle" ∧ (parseMethodDescriptor "(LDoorWalk$Text;I)V").map (fun d => d.parameters.length) = some 2 := ⟨kwt2 54 (by rfl) rfl, kwt2 55 (by rfl) rfl, kwt1 6 (by rfl) rfl, kwt2 56 (by rfl) rfl, by decide, by decide, by decide +kernel⟩
set_option maxRecDepth 100000 in
theorem cv_X7_96 : CWV "DoorWalk" 96 yX4_readExchange cX4_readExchange 5 none 2 := ⟨kwt2 53 (by rfl) rfl, mv_X4_readExchange⟩
set_option maxRecDepth 100000 in
theorem cs_X4_35 : CWS "DoorWalk$Rule" 35 yJ9_min_7cf53 cJ9_min_7cf53 2 (some .int) 2 := ⟨kwt2 57 (by rfl) rfl, ms_J9_min_7cf53⟩
set_option maxRecDepth 100000 in
theorem cv_X4_41 : CWV "DoorWalk$Rule" 41 yX6_digit cX6_digit 3 (some .int) 1 := ⟨kwt2 58 (by rfl) rfl, mv_X6_digit⟩
set_option maxRecDepth 100000 in
theorem mv_X4_setPulls : Cond.instanceMethod yX4_setPulls ∈ TB ∧ Cond.selects "DoorWalk$Rule" yX4_setPulls yX4_setPulls ∈ TB ∧ Cond.initialized "DoorWalk$Rule" ∈ TB ∧ Cond.code yX4_setPulls cX4_setPulls 8 none ∈ TB ∧ "DoorWalk$Rule" ≠ "java/lang/invoke/MethodHandle" ∧ "DoorWalk$Rule" ≠ "java/lang/invoke/VarHandle" ∧ (parseMethodDescriptor "()V").map (fun d => d.parameters.length) = some 0 := ⟨kwt2 60 (by rfl) rfl, kwt2 61 (by rfl) rfl, kwt1 6 (by rfl) rfl, kwt2 62 (by rfl) rfl, by decide, by decide, by decide +kernel⟩
set_option maxRecDepth 100000 in
theorem cv_X4_47 : CWV "DoorWalk$Rule" 47 yX4_setPulls cX4_setPulls 8 none 0 := ⟨kwt2 59 (by rfl) rfl, mv_X4_setPulls⟩
set_option maxRecDepth 100000 in
theorem mv_X4_productWithout : Cond.instanceMethod yX4_productWithout ∈ TB ∧ Cond.selects "DoorWalk$Rule" yX4_productWithout yX4_productWithout ∈ TB ∧ Cond.initialized "DoorWalk$Rule" ∈ TB ∧ Cond.code yX4_productWithout cX4_productWithout 5 (some .long) ∈ TB ∧ "DoorWalk$Rule" ≠ "java/lang/invoke/MethodHandle" ∧ "DoorWalk$Rule" ≠ "java/lang/invoke/VarHandle" ∧ (parseMethodDescriptor "(I)J").map (fun d => d.parameters.length) = some 1 := ⟨kwt2 64 (by rfl) rfl, kwt2 65 (by rfl) rfl, kwt1 6 (by rfl) rfl, kwt2 66 (by rfl) rfl, by decide, by decide, by decide +kernel⟩
set_option maxRecDepth 100000 in
theorem cv_X4_56 : CWV "DoorWalk$Rule" 56 yX4_productWithout cX4_productWithout 5 (some .long) 1 := ⟨kwt2 63 (by rfl) rfl, mv_X4_productWithout⟩
set_option maxRecDepth 100000 in
theorem mv_X4_wishes : Cond.instanceMethod yX4_wishes ∈ TB ∧ Cond.selects "DoorWalk$Rule" yX4_wishes yX4_wishes ∈ TB ∧ Cond.initialized "DoorWalk$Rule" ∈ TB ∧ Cond.code yX4_wishes cX4_wishes 2 (some .int) ∈ TB ∧ "DoorWalk$Rule" ≠ "java/lang/invoke/MethodHandle" ∧ "DoorWalk$Rule" ≠ "java/lang/invoke/VarHandle" ∧ (parseMethodDescriptor "(I)I").map (fun d => d.parameters.length) = some 1 := ⟨kwt2 68 (by rfl) rfl, kwt2 69 (by rfl) rfl, kwt1 6 (by rfl) rfl, kwt2 70 (by rfl) rfl, by decide, by decide, by decide +kernel⟩
set_option maxRecDepth 100000 in
theorem cv_X4_53 : CWV "DoorWalk$Rule" 53 yX4_wishes cX4_wishes 2 (some .int) 1 := ⟨kwt2 67 (by rfl) rfl, mv_X4_wishes⟩
set_option maxRecDepth 100000 in
theorem mv_X4_wish : Cond.instanceMethod yX4_wish ∈ TB ∧ Cond.selects "DoorWalk$Rule" yX4_wish yX4_wish ∈ TB ∧ Cond.initialized "DoorWalk$Rule" ∈ TB ∧ Cond.code yX4_wish cX4_wish 4 (some .int) ∈ TB ∧ "DoorWalk$Rule" ≠ "java/lang/invoke/MethodHandle" ∧ "DoorWalk$Rule" ≠ "java/lang/invoke/VarHandle" ∧ (parseMethodDescriptor "(II)I").map (fun d => d.parameters.length) = some 2 := ⟨kwt2 72 (by rfl) rfl, kwt2 73 (by rfl) rfl, kwt1 6 (by rfl) rfl, kwt2 74 (by rfl) rfl, by decide, by decide, by decide +kernel⟩
set_option maxRecDepth 100000 in
theorem cv_X4_50 : CWV "DoorWalk$Rule" 50 yX4_wish cX4_wish 4 (some .int) 2 := ⟨kwt2 71 (by rfl) rfl, mv_X4_wish⟩
set_option maxRecDepth 100000 in
theorem mv_X4_amount : Cond.instanceMethod yX4_amount ∈ TB ∧ Cond.selects "DoorWalk$Rule" yX4_amount yX4_amount ∈ TB ∧ Cond.initialized "DoorWalk$Rule" ∈ TB ∧ Cond.code yX4_amount cX4_amount 4 (some .int) ∈ TB ∧ "DoorWalk$Rule" ≠ "java/lang/invoke/MethodHandle" ∧ "DoorWalk$Rule" ≠ "java/lang/invoke/VarHandle" ∧ (parseMethodDescriptor "(II)I").map (fun d => d.parameters.length) = some 2 := ⟨kwt2 76 (by rfl) rfl, kwt2 77 (by rfl) rfl, kwt1 6 (by rfl) rfl, kwt2 78 (by rfl) rfl, by decide, by decide, by decide +kernel⟩
set_option maxRecDepth 100000 in
theorem cv_X4_60 : CWV "DoorWalk$Rule" 60 yX4_amount cX4_amount 4 (some .int) 2 := ⟨kwt2 75 (by rfl) rfl, mv_X4_amount⟩
set_option maxRecDepth 100000 in
theorem mv_X4_layOn : Cond.instanceMethod yX4_layOn ∈ TB ∧ Cond.selects "DoorWalk$Rule" yX4_layOn yX4_layOn ∈ TB ∧ Cond.initialized "DoorWalk$Rule" ∈ TB ∧ Cond.code yX4_layOn cX4_layOn 4 none ∈ TB ∧ "DoorWalk$Rule" ≠ "java/lang/invoke/MethodHandle" ∧ "DoorWalk$Rule" ≠ "java/lang/invoke/VarHandle" ∧ (parseMethodDescriptor "(LDoorWalk$Grid;)V").map (fun d => d.parameters.length) = some 1 := ⟨kwt2 80 (by rfl) rfl, kwt2 81 (by rfl) rfl, kwt1 6 (by rfl) rfl, kwt2 82 (by rfl) rfl, by decide, by decide, by decide +kernel⟩
set_option maxRecDepth 100000 in
theorem cv_X7_100 : CWV "DoorWalk" 100 yX4_layOn cX4_layOn 4 none 1 := ⟨kwt2 79 (by rfl) rfl, mv_X4_layOn⟩
set_option maxRecDepth 100000 in
theorem mv_X4_labelFor : Cond.instanceMethod yX4_labelFor ∈ TB ∧ Cond.selects "DoorWalk$Rule" yX4_labelFor yX4_labelFor ∈ TB ∧ Cond.initialized "DoorWalk$Rule" ∈ TB ∧ Cond.code yX4_labelFor cX4_labelFor 10 (some .int) ∈ TB ∧ "DoorWalk$Rule" ≠ "java/lang/invoke/MethodHandle" ∧ "DoorWalk$Rule" ≠ "java/lang/invoke/VarHandle" ∧ (parseMethodDescriptor "(LDoorWalk$Grid;II)I").map (fun d => d.parameters.length) = some 3 := ⟨kwt2 84 (by rfl) rfl, kwt2 85 (by rfl) rfl, kwt1 6 (by rfl) rfl, kwt2 86 (by rfl) rfl, by decide, by decide, by decide +kernel⟩
set_option maxRecDepth 100000 in
theorem cv_X4_92 : CWV "DoorWalk$Rule" 92 yX4_labelFor cX4_labelFor 10 (some .int) 3 := ⟨kwt2 83 (by rfl) rfl, mv_X4_labelFor⟩
set_option maxRecDepth 100000 in
theorem cv_X4_67 : CWV "DoorWalk$Rule" 67 yX1_price cX1_price 4 (some .int) 3 := ⟨kwt2 87 (by rfl) rfl, mv_X1_price⟩
set_option maxRecDepth 100000 in
theorem mv_X4_pull : Cond.instanceMethod yX4_pull ∈ TB ∧ Cond.selects "DoorWalk$Rule" yX4_pull yX4_pull ∈ TB ∧ Cond.initialized "DoorWalk$Rule" ∈ TB ∧ Cond.code yX4_pull cX4_pull 6 (some .long) ∈ TB ∧ "DoorWalk$Rule" ≠ "java/lang/invoke/MethodHandle" ∧ "DoorWalk$Rule" ≠ "java/lang/invoke/VarHandle" ∧ (parseMethodDescriptor "(LDoorWalk$Grid;III)J").map (fun d => d.parameters.length) = some 4 := ⟨kwt2 89 (by rfl) rfl, kwt2 90 (by rfl) rfl, kwt1 6 (by rfl) rfl, kwt2 91 (by rfl) rfl, by decide, by decide, by decide +kernel⟩
set_option maxRecDepth 100000 in
theorem cv_X4_73 : CWV "DoorWalk$Rule" 73 yX4_pull cX4_pull 6 (some .long) 4 := ⟨kwt2 88 (by rfl) rfl, mv_X4_pull⟩
theorem cn_X4_63 : CWN "DoorWalk$Rule" 63 yX7_isGood cX7_isGood 1 (some .boolean) 1 := ⟨by simp [nbM], ms_X7_isGood⟩
set_option maxRecDepth 100000 in
theorem cv_X4_96 : CWV "DoorWalk$Rule" 96 yX1_put cX1_put 4 none 3 := ⟨kwt2 93 (by rfl) rfl, mv_X1_put⟩
set_option maxRecDepth 100000 in
theorem mv_X7_map : Cond.instanceMethod yX7_map ∈ TB ∧ Cond.selects "DoorWalk" yX7_map yX7_map ∈ TB ∧ Cond.initialized "DoorWalk" ∈ TB ∧ Cond.code yX7_map cX7_map 3 (some .int) ∈ TB ∧ "DoorWalk" ≠ "java/lang/invoke/MethodHandle" ∧ "DoorWalk" ≠ "java/lang/invoke/VarHandle" ∧ (parseMethodDescriptor "()I").map (fun d => d.parameters.length) = some 0 := ⟨kwt2 95 (by rfl) rfl, kwt2 96 (by rfl) rfl, kwt1 1 (by rfl) rfl, kwt2 97 (by rfl) rfl, by decide, by decide, by decide +kernel⟩
set_option maxRecDepth 100000 in
theorem cv_L_46 : CWV "DoorWalkLaw" 46 yX7_map cX7_map 3 (some .int) 0 := ⟨kwt2 94 (by rfl) rfl, mv_X7_map⟩
set_option maxRecDepth 100000 in
theorem mv_X7_wrongInMap : Cond.instanceMethod yX7_wrongInMap ∈ TB ∧ Cond.selects "DoorWalk" yX7_wrongInMap yX7_wrongInMap ∈ TB ∧ Cond.initialized "DoorWalk" ∈ TB ∧ Cond.code yX7_wrongInMap cX7_wrongInMap 2 (some .int) ∈ TB ∧ "DoorWalk" ≠ "java/lang/invoke/MethodHandle" ∧ "DoorWalk" ≠ "java/lang/invoke/VarHandle" ∧ (parseMethodDescriptor "()I").map (fun d => d.parameters.length) = some 0 := ⟨kwt2 100 (by rfl) rfl, kwp1 2 (by rfl) rfl, kwt1 1 (by rfl) rfl, kwt2 101 (by rfl) rfl, by decide, by decide, by decide +kernel⟩
set_option maxRecDepth 100000 in
theorem cv_X7_103 : CWV "DoorWalk" 103 yX7_wrongInMap cX7_wrongInMap 2 (some .int) 0 := ⟨kwt2 98 (by rfl) rfl, mv_X7_wrongInMap⟩
set_option maxRecDepth 100000 in
theorem mv_X7_sumOfMap : Cond.instanceMethod yX7_sumOfMap ∈ TB ∧ Cond.selects "DoorWalk" yX7_sumOfMap yX7_sumOfMap ∈ TB ∧ Cond.initialized "DoorWalk" ∈ TB ∧ Cond.code yX7_sumOfMap cX7_sumOfMap 3 (some .int) ∈ TB ∧ "DoorWalk" ≠ "java/lang/invoke/MethodHandle" ∧ "DoorWalk" ≠ "java/lang/invoke/VarHandle" ∧ (parseMethodDescriptor "()I").map (fun d => d.parameters.length) = some 0 := ⟨kwt2 104 (by rfl) rfl, kwp1 3 (by rfl) rfl, kwt1 1 (by rfl) rfl, kwt2 105 (by rfl) rfl, by decide, by decide, by decide +kernel⟩
set_option maxRecDepth 100000 in
theorem cv_X7_106 : CWV "DoorWalk" 106 yX7_sumOfMap cX7_sumOfMap 3 (some .int) 0 := ⟨kwt2 102 (by rfl) rfl, mv_X7_sumOfMap⟩
set_option maxRecDepth 100000 in
theorem mv_X4_readMap : Cond.instanceMethod yX4_readMap ∈ TB ∧ Cond.selects "DoorWalk$Rule" yX4_readMap yX4_readMap ∈ TB ∧ Cond.initialized "DoorWalk$Rule" ∈ TB ∧ Cond.code yX4_readMap cX4_readMap 5 none ∈ TB ∧ "DoorWalk$Rule" ≠ "java/lang/invoke/MethodHandle" ∧ "DoorWalk$Rule" ≠ "java/lang/invoke/VarHandle" ∧ (parseMethodDescriptor "(LDoorWalk$Text;I)V").map (fun d => d.parameters.length) = some 2 := ⟨kwt2 107 (by rfl) rfl, kwt2 108 (by rfl) rfl, kwt1 6 (by rfl) rfl, kwt2 109 (by rfl) rfl, by decide, by decide, by decide +kernel⟩
set_option maxRecDepth 100000 in
theorem cv_X7_109 : CWV "DoorWalk" 109 yX4_readMap cX4_readMap 5 none 2 := ⟨kwt2 106 (by rfl) rfl, mv_X4_readMap⟩
set_option maxRecDepth 100000 in
theorem mv_X7_sheet : Cond.instanceMethod yX7_sheet ∈ TB ∧ Cond.selects "DoorWalk" yX7_sheet yX7_sheet ∈ TB ∧ Cond.initialized "DoorWalk" ∈ TB ∧ Cond.code yX7_sheet cX7_sheet 9 (some .int) ∈ TB ∧ "DoorWalk" ≠ "java/lang/invoke/MethodHandle" ∧ "DoorWalk" ≠ "java/lang/invoke/VarHandle" ∧ (parseMethodDescriptor "(IIIII)I").map (fun d => d.parameters.length) = some 5 := ⟨kwt2 111 (by rfl) rfl, kwt2 112 (by rfl) rfl, kwt1 1 (by rfl) rfl, kwt2 113 (by rfl) rfl, by decide, by decide, by decide +kernel⟩
set_option maxRecDepth 100000 in
theorem cv_L_50 : CWV "DoorWalkLaw" 50 yX7_sheet cX7_sheet 9 (some .int) 5 := ⟨kwt2 110 (by rfl) rfl, mv_X7_sheet⟩
set_option maxRecDepth 100000 in
theorem ms_X7_entryAt : Cond.static yX7_entryAt ∈ TB ∧ Cond.initialized "DoorWalk" ∈ TB ∧ Cond.code yX7_entryAt cX7_entryAt 5 (some .int) ∈ TB ∧ "DoorWalk" ≠ "java/lang/invoke/MethodHandle" ∧ "DoorWalk" ≠ "java/lang/invoke/VarHandle" ∧ (parseMethodDescriptor "(IIII)I").map (fun d => d.parameters.length) = some 4 := ⟨kwt2 115 (by rfl) rfl, kwt1 1 (by rfl) rfl, kwt2 116 (by rfl) rfl, by decide, by decide, by decide +kernel⟩
set_option maxRecDepth 100000 in
theorem cs_X7_112 : CWS "DoorWalk" 112 yX7_entryAt cX7_entryAt 5 (some .int) 4 := ⟨kwt2 114 (by rfl) rfl, ms_X7_entryAt⟩
set_option maxRecDepth 100000 in
theorem mv_X7_faultOfEntry : Cond.instanceMethod yX7_faultOfEntry ∈ TB ∧ Cond.selects "DoorWalk" yX7_faultOfEntry yX7_faultOfEntry ∈ TB ∧ Cond.initialized "DoorWalk" ∈ TB ∧ Cond.code yX7_faultOfEntry cX7_faultOfEntry 6 (some .int) ∈ TB ∧ "DoorWalk" ≠ "java/lang/invoke/MethodHandle" ∧ "DoorWalk" ≠ "java/lang/invoke/VarHandle" ∧ (parseMethodDescriptor "(III)I").map (fun d => d.parameters.length) = some 3 := ⟨kwt2 119 (by rfl) rfl, kwp1 4 (by rfl) rfl, kwt1 1 (by rfl) rfl, kwt2 120 (by rfl) rfl, by decide, by decide, by decide +kernel⟩
set_option maxRecDepth 100000 in
theorem cv_X7_116 : CWV "DoorWalk" 116 yX7_faultOfEntry cX7_faultOfEntry 6 (some .int) 3 := ⟨kwt2 117 (by rfl) rfl, mv_X7_faultOfEntry⟩
set_option maxRecDepth 100000 in
theorem mv_X1_pointI : Cond.instanceMethod yX1_pointI ∈ TB ∧ Cond.selects "DoorWalk$Grid" yX1_pointI yX1_pointI ∈ TB ∧ Cond.initialized "DoorWalk$Grid" ∈ TB ∧ Cond.code yX1_pointI cX1_pointI 4 (some .int) ∈ TB ∧ "DoorWalk$Grid" ≠ "java/lang/invoke/MethodHandle" ∧ "DoorWalk$Grid" ≠ "java/lang/invoke/VarHandle" ∧ (parseMethodDescriptor "(I)I").map (fun d => d.parameters.length) = some 1 := ⟨kwt2 122 (by rfl) rfl, kwt2 123 (by rfl) rfl, kwt1 5 (by rfl) rfl, kwt2 124 (by rfl) rfl, by decide, by decide, by decide +kernel⟩
set_option maxRecDepth 100000 in
theorem cv_X7_390 : CWV "DoorWalk" 390 yX1_pointI cX1_pointI 4 (some .int) 1 := ⟨kwt2 121 (by rfl) rfl, mv_X1_pointI⟩
set_option maxRecDepth 100000 in
theorem mv_X1_pointJ : Cond.instanceMethod yX1_pointJ ∈ TB ∧ Cond.selects "DoorWalk$Grid" yX1_pointJ yX1_pointJ ∈ TB ∧ Cond.initialized "DoorWalk$Grid" ∈ TB ∧ Cond.code yX1_pointJ cX1_pointJ 2 (some .int) ∈ TB ∧ "DoorWalk$Grid" ≠ "java/lang/invoke/MethodHandle" ∧ "DoorWalk$Grid" ≠ "java/lang/invoke/VarHandle" ∧ (parseMethodDescriptor "(I)I").map (fun d => d.parameters.length) = some 1 := ⟨kwt2 126 (by rfl) rfl, kwt2 127 (by rfl) rfl, kwt1 5 (by rfl) rfl, kwt2 128 (by rfl) rfl, by decide, by decide, by decide +kernel⟩
set_option maxRecDepth 100000 in
theorem cv_X7_393 : CWV "DoorWalk" 393 yX1_pointJ cX1_pointJ 2 (some .int) 1 := ⟨kwt2 125 (by rfl) rfl, mv_X1_pointJ⟩
set_option maxRecDepth 100000 in
theorem cv_X1_41 : CWV "DoorWalk$Grid" 41 yX1_pointI cX1_pointI 4 (some .int) 1 := ⟨kwt2 129 (by rfl) rfl, mv_X1_pointI⟩
set_option maxRecDepth 100000 in
theorem mv_X3_tell_ : Cond.instanceMethod yX3_tell_ ∈ TB ∧ Cond.selects "DoorWalk$Row" yX3_tell_ yX3_tell_ ∈ TB ∧ Cond.initialized "DoorWalk$Row" ∈ TB ∧ Cond.code yX3_tell_ cX3_tell_ 5 none ∈ TB ∧ "DoorWalk$Row" ≠ "java/lang/invoke/MethodHandle" ∧ "DoorWalk$Row" ≠ "java/lang/invoke/VarHandle" ∧ (parseMethodDescriptor "(JJ)V").map (fun d => d.parameters.length) = some 2 := ⟨kwt2 131 (by rfl) rfl, kwt2 132 (by rfl) rfl, kwt1 3 (by rfl) rfl, kwt2 133 (by rfl) rfl, by decide, by decide, by decide +kernel⟩
set_option maxRecDepth 100000 in
theorem cv_X7_120 : CWV "DoorWalk" 120 yX3_tell_ cX3_tell_ 5 none 2 := ⟨kwt2 130 (by rfl) rfl, mv_X3_tell_⟩
set_option maxRecDepth 100000 in
theorem mv_X3_tell : Cond.instanceMethod yX3_tell ∈ TB ∧ Cond.selects "DoorWalk$Row" yX3_tell yX3_tell ∈ TB ∧ Cond.initialized "DoorWalk$Row" ∈ TB ∧ Cond.code yX3_tell cX3_tell 3 none ∈ TB ∧ "DoorWalk$Row" ≠ "java/lang/invoke/MethodHandle" ∧ "DoorWalk$Row" ≠ "java/lang/invoke/VarHandle" ∧ (parseMethodDescriptor "(J)V").map (fun d => d.parameters.length) = some 1 := ⟨kwt2 135 (by rfl) rfl, kwt2 136 (by rfl) rfl, kwt1 3 (by rfl) rfl, kwt2 137 (by rfl) rfl, by decide, by decide, by decide +kernel⟩
set_option maxRecDepth 100000 in
theorem cv_X3_26 : CWV "DoorWalk$Row" 26 yX3_tell cX3_tell 3 none 1 := ⟨kwt2 134 (by rfl) rfl, mv_X3_tell⟩
set_option maxRecDepth 100000 in
theorem mv_X3_clear : Cond.instanceMethod yX3_clear ∈ TB ∧ Cond.selects "DoorWalk$Row" yX3_clear yX3_clear ∈ TB ∧ Cond.initialized "DoorWalk$Row" ∈ TB ∧ Cond.code yX3_clear cX3_clear 1 none ∈ TB ∧ "DoorWalk$Row" ≠ "java/lang/invoke/MethodHandle" ∧ "DoorWalk$Row" ≠ "java/lang/invoke/VarHandle" ∧ (parseMethodDescriptor "()V").map (fun d => d.parameters.length) = some 0 := ⟨kwt2 139 (by rfl) rfl, kwt2 140 (by rfl) rfl, kwt1 3 (by rfl) rfl, kwt2 141 (by rfl) rfl, by decide, by decide, by decide +kernel⟩
set_option maxRecDepth 100000 in
theorem cv_X3_19 : CWV "DoorWalk$Row" 19 yX3_clear cX3_clear 1 none 0 := ⟨kwt2 138 (by rfl) rfl, mv_X3_clear⟩
set_option maxRecDepth 100000 in
theorem mv_X3_add : Cond.instanceMethod yX3_add ∈ TB ∧ Cond.selects "DoorWalk$Row" yX3_add yX3_add ∈ TB ∧ Cond.initialized "DoorWalk$Row" ∈ TB ∧ Cond.code yX3_add cX3_add 3 none ∈ TB ∧ "DoorWalk$Row" ≠ "java/lang/invoke/MethodHandle" ∧ "DoorWalk$Row" ≠ "java/lang/invoke/VarHandle" ∧ (parseMethodDescriptor "(J)V").map (fun d => d.parameters.length) = some 1 := ⟨kwt2 143 (by rfl) rfl, kwt2 144 (by rfl) rfl, kwt1 3 (by rfl) rfl, kwt2 145 (by rfl) rfl, by decide, by decide, by decide +kernel⟩
set_option maxRecDepth 100000 in
theorem cv_X3_22 : CWV "DoorWalk$Row" 22 yX3_add cX3_add 3 none 1 := ⟨kwt2 142 (by rfl) rfl, mv_X3_add⟩
set_option maxRecDepth 100000 in
theorem mv_X1_labelOfNumber : Cond.instanceMethod yX1_labelOfNumber ∈ TB ∧ Cond.selects "DoorWalk$Grid" yX1_labelOfNumber yX1_labelOfNumber ∈ TB ∧ Cond.initialized "DoorWalk$Grid" ∈ TB ∧ Cond.code yX1_labelOfNumber cX1_labelOfNumber 2 (some .int) ∈ TB ∧ "DoorWalk$Grid" ≠ "java/lang/invoke/MethodHandle" ∧ "DoorWalk$Grid" ≠ "java/lang/invoke/VarHandle" ∧ (parseMethodDescriptor "(I)I").map (fun d => d.parameters.length) = some 1 := ⟨kwt2 147 (by rfl) rfl, kwt2 148 (by rfl) rfl, kwt1 5 (by rfl) rfl, kwt2 149 (by rfl) rfl, by decide, by decide, by decide +kernel⟩
set_option maxRecDepth 100000 in
theorem cv_X7_124 : CWV "DoorWalk" 124 yX1_labelOfNumber cX1_labelOfNumber 2 (some .int) 1 := ⟨kwt2 146 (by rfl) rfl, mv_X1_labelOfNumber⟩
set_option maxRecDepth 100000 in
theorem cv_X7_128 : CWV "DoorWalk" 128 yX1_putNumber cX1_putNumber 3 none 2 := ⟨kwt2 150 (by rfl) rfl, mv_X1_putNumber⟩
set_option maxRecDepth 100000 in
theorem mv_X7_point : Cond.instanceMethod yX7_point ∈ TB ∧ Cond.selects "DoorWalk" yX7_point yX7_point ∈ TB ∧ Cond.initialized "DoorWalk" ∈ TB ∧ Cond.code yX7_point cX7_point 4 (some .int) ∈ TB ∧ "DoorWalk" ≠ "java/lang/invoke/MethodHandle" ∧ "DoorWalk" ≠ "java/lang/invoke/VarHandle" ∧ (parseMethodDescriptor "(II)I").map (fun d => d.parameters.length) = some 2 := ⟨kwt2 152 (by rfl) rfl, kwt2 153 (by rfl) rfl, kwt1 1 (by rfl) rfl, kwt2 154 (by rfl) rfl, by decide, by decide, by decide +kernel⟩
set_option maxRecDepth 100000 in
theorem cv_L_64 : CWV "DoorWalkLaw" 64 yX7_point cX7_point 4 (some .int) 2 := ⟨kwt2 151 (by rfl) rfl, mv_X7_point⟩
set_option maxRecDepth 100000 in
theorem mv_X1_has : Cond.instanceMethod yX1_has ∈ TB ∧ Cond.selects "DoorWalk$Grid" yX1_has yX1_has ∈ TB ∧ Cond.initialized "DoorWalk$Grid" ∈ TB ∧ Cond.code yX1_has cX1_has 3 (some .boolean) ∈ TB ∧ "DoorWalk$Grid" ≠ "java/lang/invoke/MethodHandle" ∧ "DoorWalk$Grid" ≠ "java/lang/invoke/VarHandle" ∧ (parseMethodDescriptor "(II)Z").map (fun d => d.parameters.length) = some 2 := ⟨kwt2 156 (by rfl) rfl, kwt2 157 (by rfl) rfl, kwt1 5 (by rfl) rfl, kwt2 158 (by rfl) rfl, by decide, by decide, by decide +kernel⟩
set_option maxRecDepth 100000 in
theorem cv_X7_132 : CWV "DoorWalk" 132 yX1_has cX1_has 3 (some .boolean) 2 := ⟨kwt2 155 (by rfl) rfl, mv_X1_has⟩
set_option maxRecDepth 100000 in
theorem cv_X7_147 : CWV "DoorWalk" 147 yX1_price cX1_price 4 (some .int) 3 := ⟨kwt2 159 (by rfl) rfl, mv_X1_price⟩
set_option maxRecDepth 100000 in
theorem mv_X3_tell__ : Cond.instanceMethod yX3_tell__ ∈ TB ∧ Cond.selects "DoorWalk$Row" yX3_tell__ yX3_tell__ ∈ TB ∧ Cond.initialized "DoorWalk$Row" ∈ TB ∧ Cond.code yX3_tell__ cX3_tell__ 7 none ∈ TB ∧ "DoorWalk$Row" ≠ "java/lang/invoke/MethodHandle" ∧ "DoorWalk$Row" ≠ "java/lang/invoke/VarHandle" ∧ (parseMethodDescriptor "(JJJ)V").map (fun d => d.parameters.length) = some 3 := ⟨kwt2 161 (by rfl) rfl, kwt2 162 (by rfl) rfl, kwt1 3 (by rfl) rfl, kwt2 163 (by rfl) rfl, by decide, by decide, by decide +kernel⟩
set_option maxRecDepth 100000 in
theorem cv_X7_150 : CWV "DoorWalk" 150 yX3_tell__ cX3_tell__ 7 none 3 := ⟨kwt2 160 (by rfl) rfl, mv_X3_tell__⟩
set_option maxRecDepth 100000 in
theorem cv_X3_29 : CWV "DoorWalk$Row" 29 yX3_tell_ cX3_tell_ 5 none 2 := ⟨kwt2 164 (by rfl) rfl, mv_X3_tell_⟩
set_option maxRecDepth 100000 in
theorem cv_X7_153 : CWV "DoorWalk" 153 yX1_numberOf cX1_numberOf 3 (some .int) 2 := ⟨kwt2 165 (by rfl) rfl, mv_X1_numberOf⟩
set_option maxRecDepth 100000 in
theorem mv_X7_cell : Cond.instanceMethod yX7_cell ∈ TB ∧ Cond.selects "DoorWalk" yX7_cell yX7_cell ∈ TB ∧ Cond.initialized "DoorWalk" ∈ TB ∧ Cond.code yX7_cell cX7_cell 4 (some .int) ∈ TB ∧ "DoorWalk" ≠ "java/lang/invoke/MethodHandle" ∧ "DoorWalk" ≠ "java/lang/invoke/VarHandle" ∧ (parseMethodDescriptor "(I)I").map (fun d => d.parameters.length) = some 1 := ⟨kwt2 167 (by rfl) rfl, kwt2 168 (by rfl) rfl, kwt1 1 (by rfl) rfl, kwt2 169 (by rfl) rfl, by decide, by decide, by decide +kernel⟩
set_option maxRecDepth 100000 in
theorem cv_L_68 : CWV "DoorWalkLaw" 68 yX7_cell cX7_cell 4 (some .int) 1 := ⟨kwt2 166 (by rfl) rfl, mv_X7_cell⟩
set_option maxRecDepth 100000 in
theorem mv_X1_isCell : Cond.instanceMethod yX1_isCell ∈ TB ∧ Cond.selects "DoorWalk$Grid" yX1_isCell yX1_isCell ∈ TB ∧ Cond.initialized "DoorWalk$Grid" ∈ TB ∧ Cond.code yX1_isCell cX1_isCell 2 (some .boolean) ∈ TB ∧ "DoorWalk$Grid" ≠ "java/lang/invoke/MethodHandle" ∧ "DoorWalk$Grid" ≠ "java/lang/invoke/VarHandle" ∧ (parseMethodDescriptor "(I)Z").map (fun d => d.parameters.length) = some 1 := ⟨kwt2 171 (by rfl) rfl, kwt2 172 (by rfl) rfl, kwt1 5 (by rfl) rfl, kwt2 173 (by rfl) rfl, by decide, by decide, by decide +kernel⟩
set_option maxRecDepth 100000 in
theorem cv_X7_156 : CWV "DoorWalk" 156 yX1_isCell cX1_isCell 2 (some .boolean) 1 := ⟨kwt2 170 (by rfl) rfl, mv_X1_isCell⟩
set_option maxRecDepth 100000 in
theorem mv_X1_cellI : Cond.instanceMethod yX1_cellI ∈ TB ∧ Cond.selects "DoorWalk$Grid" yX1_cellI yX1_cellI ∈ TB ∧ Cond.initialized "DoorWalk$Grid" ∈ TB ∧ Cond.code yX1_cellI cX1_cellI 2 (some .int) ∈ TB ∧ "DoorWalk$Grid" ≠ "java/lang/invoke/MethodHandle" ∧ "DoorWalk$Grid" ≠ "java/lang/invoke/VarHandle" ∧ (parseMethodDescriptor "(I)I").map (fun d => d.parameters.length) = some 1 := ⟨kwt2 175 (by rfl) rfl, kwt2 176 (by rfl) rfl, kwt1 5 (by rfl) rfl, kwt2 177 (by rfl) rfl, by decide, by decide, by decide +kernel⟩
set_option maxRecDepth 100000 in
theorem cv_X1_75 : CWV "DoorWalk$Grid" 75 yX1_cellI cX1_cellI 2 (some .int) 1 := ⟨kwt2 174 (by rfl) rfl, mv_X1_cellI⟩
set_option maxRecDepth 100000 in
theorem mv_X1_cellJ : Cond.instanceMethod yX1_cellJ ∈ TB ∧ Cond.selects "DoorWalk$Grid" yX1_cellJ yX1_cellJ ∈ TB ∧ Cond.initialized "DoorWalk$Grid" ∈ TB ∧ Cond.code yX1_cellJ cX1_cellJ 2 (some .int) ∈ TB ∧ "DoorWalk$Grid" ≠ "java/lang/invoke/MethodHandle" ∧ "DoorWalk$Grid" ≠ "java/lang/invoke/VarHandle" ∧ (parseMethodDescriptor "(I)I").map (fun d => d.parameters.length) = some 1 := ⟨kwt2 179 (by rfl) rfl, kwt2 180 (by rfl) rfl, kwt1 5 (by rfl) rfl, kwt2 181 (by rfl) rfl, by decide, by decide, by decide +kernel⟩
set_option maxRecDepth 100000 in
theorem cv_X1_78 : CWV "DoorWalk$Grid" 78 yX1_cellJ cX1_cellJ 2 (some .int) 1 := ⟨kwt2 178 (by rfl) rfl, mv_X1_cellJ⟩
set_option maxRecDepth 100000 in
theorem mv_X1_turn : Cond.instanceMethod yX1_turn ∈ TB ∧ Cond.selects "DoorWalk$Grid" yX1_turn yX1_turn ∈ TB ∧ Cond.initialized "DoorWalk$Grid" ∈ TB ∧ Cond.code yX1_turn cX1_turn 2 (some .int) ∈ TB ∧ "DoorWalk$Grid" ≠ "java/lang/invoke/MethodHandle" ∧ "DoorWalk$Grid" ≠ "java/lang/invoke/VarHandle" ∧ (parseMethodDescriptor "(I)I").map (fun d => d.parameters.length) = some 1 := ⟨kwt2 183 (by rfl) rfl, kwt2 184 (by rfl) rfl, kwt1 5 (by rfl) rfl, kwt2 185 (by rfl) rfl, by decide, by decide, by decide +kernel⟩
set_option maxRecDepth 100000 in
theorem cv_X7_159 : CWV "DoorWalk" 159 yX1_turn cX1_turn 2 (some .int) 1 := ⟨kwt2 182 (by rfl) rfl, mv_X1_turn⟩
set_option maxRecDepth 100000 in
theorem cv_X1_93 : CWV "DoorWalk$Grid" 93 yX1_isCell cX1_isCell 2 (some .boolean) 1 := ⟨kwt2 186 (by rfl) rfl, mv_X1_isCell⟩
set_option maxRecDepth 100000 in
theorem mv_X1_turnAt : Cond.instanceMethod yX1_turnAt ∈ TB ∧ Cond.selects "DoorWalk$Grid" yX1_turnAt yX1_turnAt ∈ TB ∧ Cond.initialized "DoorWalk$Grid" ∈ TB ∧ Cond.code yX1_turnAt cX1_turnAt 6 (some .int) ∈ TB ∧ "DoorWalk$Grid" ≠ "java/lang/invoke/MethodHandle" ∧ "DoorWalk$Grid" ≠ "java/lang/invoke/VarHandle" ∧ (parseMethodDescriptor "(III)I").map (fun d => d.parameters.length) = some 3 := ⟨kwt2 188 (by rfl) rfl, kwt2 189 (by rfl) rfl, kwt1 5 (by rfl) rfl, kwt2 190 (by rfl) rfl, by decide, by decide, by decide +kernel⟩
set_option maxRecDepth 100000 in
theorem cv_X1_96 : CWV "DoorWalk$Grid" 96 yX1_turnAt cX1_turnAt 6 (some .int) 3 := ⟨kwt2 187 (by rfl) rfl, mv_X1_turnAt⟩
set_option maxRecDepth 100000 in
theorem mv_X1_overOf : Cond.instanceMethod yX1_overOf ∈ TB ∧ Cond.selects "DoorWalk$Grid" yX1_overOf yX1_overOf ∈ TB ∧ Cond.initialized "DoorWalk$Grid" ∈ TB ∧ Cond.code yX1_overOf cX1_overOf 3 (some .int) ∈ TB ∧ "DoorWalk$Grid" ≠ "java/lang/invoke/MethodHandle" ∧ "DoorWalk$Grid" ≠ "java/lang/invoke/VarHandle" ∧ (parseMethodDescriptor "(II)I").map (fun d => d.parameters.length) = some 2 := ⟨kwt2 192 (by rfl) rfl, kwt2 193 (by rfl) rfl, kwt1 5 (by rfl) rfl, kwt2 194 (by rfl) rfl, by decide, by decide, by decide +kernel⟩
set_option maxRecDepth 100000 in
theorem cv_X1_87 : CWV "DoorWalk$Grid" 87 yX1_overOf cX1_overOf 3 (some .int) 2 := ⟨kwt2 191 (by rfl) rfl, mv_X1_overOf⟩
set_option maxRecDepth 100000 in
theorem cv_X1_57 : CWV "DoorWalk$Grid" 57 yX1_labelOfNumber cX1_labelOfNumber 2 (some .int) 1 := ⟨kwt2 195 (by rfl) rfl, mv_X1_labelOfNumber⟩
set_option maxRecDepth 100000 in
theorem ms_X1_turnOf : Cond.static yX1_turnOf ∈ TB ∧ Cond.initialized "DoorWalk$Grid" ∈ TB ∧ Cond.code yX1_turnOf cX1_turnOf 3 (some .int) ∈ TB ∧ "DoorWalk$Grid" ≠ "java/lang/invoke/MethodHandle" ∧ "DoorWalk$Grid" ≠ "java/lang/invoke/VarHandle" ∧ (parseMethodDescriptor "(III)I").map (fun d => d.parameters.length) = some 3 := ⟨kwt2 197 (by rfl) rfl, kwt1 5 (by rfl) rfl, kwt2 198 (by rfl) rfl, by decide, by decide, by decide +kernel⟩
set_option maxRecDepth 100000 in
theorem cs_X1_99 : CWS "DoorWalk$Grid" 99 yX1_turnOf cX1_turnOf 3 (some .int) 3 := ⟨kwt2 196 (by rfl) rfl, ms_X1_turnOf⟩
set_option maxRecDepth 100000 in
theorem mv_X1_cornerLabel : Cond.instanceMethod yX1_cornerLabel ∈ TB ∧ Cond.selects "DoorWalk$Grid" yX1_cornerLabel yX1_cornerLabel ∈ TB ∧ Cond.initialized "DoorWalk$Grid" ∈ TB ∧ Cond.code yX1_cornerLabel cX1_cornerLabel 7 (some .int) ∈ TB ∧ "DoorWalk$Grid" ≠ "java/lang/invoke/MethodHandle" ∧ "DoorWalk$Grid" ≠ "java/lang/invoke/VarHandle" ∧ (parseMethodDescriptor "(II)I").map (fun d => d.parameters.length) = some 2 := ⟨kwt2 200 (by rfl) rfl, kwt2 201 (by rfl) rfl, kwt1 5 (by rfl) rfl, kwt2 202 (by rfl) rfl, by decide, by decide, by decide +kernel⟩
set_option maxRecDepth 100000 in
theorem cv_X7_162 : CWV "DoorWalk" 162 yX1_cornerLabel cX1_cornerLabel 7 (some .int) 2 := ⟨kwt2 199 (by rfl) rfl, mv_X1_cornerLabel⟩
set_option maxRecDepth 100000 in
theorem mv_X3_tell___ : Cond.instanceMethod yX3_tell___ ∈ TB ∧ Cond.selects "DoorWalk$Row" yX3_tell___ yX3_tell___ ∈ TB ∧ Cond.initialized "DoorWalk$Row" ∈ TB ∧ Cond.code yX3_tell___ cX3_tell___ 9 none ∈ TB ∧ "DoorWalk$Row" ≠ "java/lang/invoke/MethodHandle" ∧ "DoorWalk$Row" ≠ "java/lang/invoke/VarHandle" ∧ (parseMethodDescriptor "(JJJJ)V").map (fun d => d.parameters.length) = some 4 := ⟨kwt2 204 (by rfl) rfl, kwt2 205 (by rfl) rfl, kwt1 3 (by rfl) rfl, kwt2 206 (by rfl) rfl, by decide, by decide, by decide +kernel⟩
set_option maxRecDepth 100000 in
theorem cv_X7_165 : CWV "DoorWalk" 165 yX3_tell___ cX3_tell___ 9 none 4 := ⟨kwt2 203 (by rfl) rfl, mv_X3_tell___⟩
set_option maxRecDepth 100000 in
theorem cv_X3_32 : CWV "DoorWalk$Row" 32 yX3_tell__ cX3_tell__ 7 none 3 := ⟨kwt2 207 (by rfl) rfl, mv_X3_tell__⟩
set_option maxRecDepth 100000 in
theorem mv_X7_full : Cond.instanceMethod yX7_full ∈ TB ∧ Cond.selects "DoorWalk" yX7_full yX7_full ∈ TB ∧ Cond.initialized "DoorWalk" ∈ TB ∧ Cond.code yX7_full cX7_full 2 (some .int) ∈ TB ∧ "DoorWalk" ≠ "java/lang/invoke/MethodHandle" ∧ "DoorWalk" ≠ "java/lang/invoke/VarHandle" ∧ (parseMethodDescriptor "()I").map (fun d => d.parameters.length) = some 0 := ⟨kwt2 209 (by rfl) rfl, kwt2 210 (by rfl) rfl, kwt1 1 (by rfl) rfl, kwt2 211 (by rfl) rfl, by decide, by decide, by decide +kernel⟩
set_option maxRecDepth 100000 in
theorem cv_L_72 : CWV "DoorWalkLaw" 72 yX7_full cX7_full 2 (some .int) 0 := ⟨kwt2 208 (by rfl) rfl, mv_X7_full⟩
set_option maxRecDepth 100000 in
theorem mv_X1_survey : Cond.instanceMethod yX1_survey ∈ TB ∧ Cond.selects "DoorWalk$Grid" yX1_survey yX1_survey ∈ TB ∧ Cond.initialized "DoorWalk$Grid" ∈ TB ∧ Cond.code yX1_survey cX1_survey 3 none ∈ TB ∧ "DoorWalk$Grid" ≠ "java/lang/invoke/MethodHandle" ∧ "DoorWalk$Grid" ≠ "java/lang/invoke/VarHandle" ∧ (parseMethodDescriptor "()V").map (fun d => d.parameters.length) = some 0 := ⟨kwt2 213 (by rfl) rfl, kwt2 214 (by rfl) rfl, kwt1 5 (by rfl) rfl, kwt2 215 (by rfl) rfl, by decide, by decide, by decide +kernel⟩
set_option maxRecDepth 100000 in
theorem cv_X7_168 : CWV "DoorWalk" 168 yX1_survey cX1_survey 3 none 0 := ⟨kwt2 212 (by rfl) rfl, mv_X1_survey⟩
set_option maxRecDepth 100000 in
theorem mv_X1_take : Cond.instanceMethod yX1_take ∈ TB ∧ Cond.selects "DoorWalk$Grid" yX1_take yX1_take ∈ TB ∧ Cond.initialized "DoorWalk$Grid" ∈ TB ∧ Cond.code yX1_take cX1_take 3 none ∈ TB ∧ "DoorWalk$Grid" ≠ "java/lang/invoke/MethodHandle" ∧ "DoorWalk$Grid" ≠ "java/lang/invoke/VarHandle" ∧ (parseMethodDescriptor "(II)V").map (fun d => d.parameters.length) = some 2 := ⟨kwt2 217 (by rfl) rfl, kwt2 218 (by rfl) rfl, kwt1 5 (by rfl) rfl, kwt2 219 (by rfl) rfl, by decide, by decide, by decide +kernel⟩
set_option maxRecDepth 100000 in
theorem cv_X1_102 : CWV "DoorWalk$Grid" 102 yX1_take cX1_take 3 none 2 := ⟨kwt2 216 (by rfl) rfl, mv_X1_take⟩
set_option maxRecDepth 100000 in
theorem mv_X7_nth : Cond.instanceMethod yX7_nth ∈ TB ∧ Cond.selects "DoorWalk" yX7_nth yX7_nth ∈ TB ∧ Cond.initialized "DoorWalk" ∈ TB ∧ Cond.code yX7_nth cX7_nth 3 (some .int) ∈ TB ∧ "DoorWalk" ≠ "java/lang/invoke/MethodHandle" ∧ "DoorWalk" ≠ "java/lang/invoke/VarHandle" ∧ (parseMethodDescriptor "(I)I").map (fun d => d.parameters.length) = some 1 := ⟨kwt2 221 (by rfl) rfl, kwt2 222 (by rfl) rfl, kwt1 1 (by rfl) rfl, kwt2 223 (by rfl) rfl, by decide, by decide, by decide +kernel⟩
set_option maxRecDepth 100000 in
theorem cv_L_76 : CWV "DoorWalkLaw" 76 yX7_nth cX7_nth 3 (some .int) 1 := ⟨kwt2 220 (by rfl) rfl, mv_X7_nth⟩
set_option maxRecDepth 100000 in
theorem mv_X1_nthFull : Cond.instanceMethod yX1_nthFull ∈ TB ∧ Cond.selects "DoorWalk$Grid" yX1_nthFull yX1_nthFull ∈ TB ∧ Cond.initialized "DoorWalk$Grid" ∈ TB ∧ Cond.code yX1_nthFull cX1_nthFull 4 (some .int) ∈ TB ∧ "DoorWalk$Grid" ≠ "java/lang/invoke/MethodHandle" ∧ "DoorWalk$Grid" ≠ "java/lang/invoke/VarHandle" ∧ (parseMethodDescriptor "(I)I").map (fun d => d.parameters.length) = some 1 := ⟨kwt2 225 (by rfl) rfl, kwt2 226 (by rfl) rfl, kwt1 5 (by rfl) rfl, kwt2 227 (by rfl) rfl, by decide, by decide, by decide +kernel⟩
set_option maxRecDepth 100000 in
theorem cv_X7_183 : CWV "DoorWalk" 183 yX1_nthFull cX1_nthFull 4 (some .int) 1 := ⟨kwt2 224 (by rfl) rfl, mv_X1_nthFull⟩
set_option maxRecDepth 100000 in
theorem mv_X1_numbers : Cond.instanceMethod yX1_numbers ∈ TB ∧ Cond.selects "DoorWalk$Grid" yX1_numbers yX1_numbers ∈ TB ∧ Cond.initialized "DoorWalk$Grid" ∈ TB ∧ Cond.code yX1_numbers cX1_numbers 1 (some .int) ∈ TB ∧ "DoorWalk$Grid" ≠ "java/lang/invoke/MethodHandle" ∧ "DoorWalk$Grid" ≠ "java/lang/invoke/VarHandle" ∧ (parseMethodDescriptor "()I").map (fun d => d.parameters.length) = some 0 := ⟨kwt2 229 (by rfl) rfl, kwt2 230 (by rfl) rfl, kwt1 5 (by rfl) rfl, kwt2 231 (by rfl) rfl, by decide, by decide, by decide +kernel⟩
set_option maxRecDepth 100000 in
theorem cv_X1_108 : CWV "DoorWalk$Grid" 108 yX1_numbers cX1_numbers 1 (some .int) 0 := ⟨kwt2 228 (by rfl) rfl, mv_X1_numbers⟩
set_option maxRecDepth 100000 in
theorem cv_X1_112 : CWV "DoorWalk$Grid" 112 yX1_turn cX1_turn 2 (some .int) 1 := ⟨kwt2 232 (by rfl) rfl, mv_X1_turn⟩
set_option maxRecDepth 100000 in
theorem cv_X7_186 : CWV "DoorWalk" 186 yX3_tell cX3_tell 3 none 1 := ⟨kwt2 233 (by rfl) rfl, mv_X3_tell⟩
set_option maxRecDepth 100000 in
theorem mv_X7_with : Cond.instanceMethod yX7_with ∈ TB ∧ Cond.selects "DoorWalk" yX7_with yX7_with ∈ TB ∧ Cond.initialized "DoorWalk" ∈ TB ∧ Cond.code yX7_with cX7_with 5 (some .int) ∈ TB ∧ "DoorWalk" ≠ "java/lang/invoke/MethodHandle" ∧ "DoorWalk" ≠ "java/lang/invoke/VarHandle" ∧ (parseMethodDescriptor "(I)I").map (fun d => d.parameters.length) = some 1 := ⟨kwt2 235 (by rfl) rfl, kwt2 236 (by rfl) rfl, kwt1 1 (by rfl) rfl, kwt2 237 (by rfl) rfl, by decide, by decide, by decide +kernel⟩
set_option maxRecDepth 100000 in
theorem cv_L_80 : CWV "DoorWalkLaw" 80 yX7_with cX7_with 5 (some .int) 1 := ⟨kwt2 234 (by rfl) rfl, mv_X7_with⟩
set_option maxRecDepth 100000 in
theorem cv_X7_189 : CWV "DoorWalk" 189 yX1_numbers cX1_numbers 1 (some .int) 0 := ⟨kwt2 238 (by rfl) rfl, mv_X1_numbers⟩
set_option maxRecDepth 100000 in
theorem mv_X1_labelSet : Cond.instanceMethod yX1_labelSet ∈ TB ∧ Cond.selects "DoorWalk$Grid" yX1_labelSet yX1_labelSet ∈ TB ∧ Cond.initialized "DoorWalk$Grid" ∈ TB ∧ Cond.code yX1_labelSet cX1_labelSet 2 (some .int) ∈ TB ∧ "DoorWalk$Grid" ≠ "java/lang/invoke/MethodHandle" ∧ "DoorWalk$Grid" ≠ "java/lang/invoke/VarHandle" ∧ (parseMethodDescriptor "(I)I").map (fun d => d.parameters.length) = some 1 := ⟨kwt3 0 (by rfl) rfl, kwt3 1 (by rfl) rfl, kwt1 5 (by rfl) rfl, kwt3 2 (by rfl) rfl, by decide, by decide, by decide +kernel⟩
set_option maxRecDepth 100000 in
theorem cv_X7_192 : CWV "DoorWalk" 192 yX1_labelSet cX1_labelSet 2 (some .int) 1 := ⟨kwt2 239 (by rfl) rfl, mv_X1_labelSet⟩
set_option maxRecDepth 100000 in
theorem cv_X1_90 : CWV "DoorWalk$Grid" 90 yX1_cornerLabel cX1_cornerLabel 7 (some .int) 2 := ⟨kwt3 3 (by rfl) rfl, mv_X1_cornerLabel⟩
set_option maxRecDepth 100000 in
theorem mv_X7_many : Cond.instanceMethod yX7_many ∈ TB ∧ Cond.selects "DoorWalk" yX7_many yX7_many ∈ TB ∧ Cond.initialized "DoorWalk" ∈ TB ∧ Cond.code yX7_many cX7_many 7 (some .int) ∈ TB ∧ "DoorWalk" ≠ "java/lang/invoke/MethodHandle" ∧ "DoorWalk" ≠ "java/lang/invoke/VarHandle" ∧ (parseMethodDescriptor "(I)I").map (fun d => d.parameters.length) = some 1 := ⟨kwt3 5 (by rfl) rfl, kwt3 6 (by rfl) rfl, kwt1 1 (by rfl) rfl, kwt3 7 (by rfl) rfl, by decide, by decide, by decide +kernel⟩
set_option maxRecDepth 100000 in
theorem cv_L_84 : CWV "DoorWalkLaw" 84 yX7_many cX7_many 7 (some .int) 1 := ⟨kwt3 4 (by rfl) rfl, mv_X7_many⟩
set_option maxRecDepth 100000 in
theorem cs_X7_195 : CWS "DoorWalk" 195 yX7_isGood cX7_isGood 1 (some .boolean) 1 := ⟨kwt3 8 (by rfl) rfl, ms_X7_isGood⟩
set_option maxRecDepth 100000 in
theorem mv_X1_labelAt : Cond.instanceMethod yX1_labelAt ∈ TB ∧ Cond.selects "DoorWalk$Grid" yX1_labelAt yX1_labelAt ∈ TB ∧ Cond.initialized "DoorWalk$Grid" ∈ TB ∧ Cond.code yX1_labelAt cX1_labelAt 3 (some .int) ∈ TB ∧ "DoorWalk$Grid" ≠ "java/lang/invoke/MethodHandle" ∧ "DoorWalk$Grid" ≠ "java/lang/invoke/VarHandle" ∧ (parseMethodDescriptor "(II)I").map (fun d => d.parameters.length) = some 2 := ⟨kwt3 10 (by rfl) rfl, kwt3 11 (by rfl) rfl, kwt1 5 (by rfl) rfl, kwt3 12 (by rfl) rfl, by decide, by decide, by decide +kernel⟩
set_option maxRecDepth 100000 in
theorem cv_X7_143 : CWV "DoorWalk" 143 yX1_labelAt cX1_labelAt 3 (some .int) 2 := ⟨kwt3 9 (by rfl) rfl, mv_X1_labelAt⟩
set_option maxRecDepth 100000 in
theorem mv_X1_onRim : Cond.instanceMethod yX1_onRim ∈ TB ∧ Cond.selects "DoorWalk$Grid" yX1_onRim yX1_onRim ∈ TB ∧ Cond.initialized "DoorWalk$Grid" ∈ TB ∧ Cond.code yX1_onRim cX1_onRim 3 (some .boolean) ∈ TB ∧ "DoorWalk$Grid" ≠ "java/lang/invoke/MethodHandle" ∧ "DoorWalk$Grid" ≠ "java/lang/invoke/VarHandle" ∧ (parseMethodDescriptor "(II)Z").map (fun d => d.parameters.length) = some 2 := ⟨kwt3 14 (by rfl) rfl, kwt3 15 (by rfl) rfl, kwt1 5 (by rfl) rfl, kwt3 16 (by rfl) rfl, by decide, by decide, by decide +kernel⟩
set_option maxRecDepth 100000 in
theorem cv_X7_201 : CWV "DoorWalk" 201 yX1_onRim cX1_onRim 3 (some .boolean) 2 := ⟨kwt3 13 (by rfl) rfl, mv_X1_onRim⟩
set_option maxRecDepth 100000 in
theorem mv_X7_outer : Cond.instanceMethod yX7_outer ∈ TB ∧ Cond.selects "DoorWalk" yX7_outer yX7_outer ∈ TB ∧ Cond.initialized "DoorWalk" ∈ TB ∧ Cond.code yX7_outer cX7_outer 4 (some .int) ∈ TB ∧ "DoorWalk" ≠ "java/lang/invoke/MethodHandle" ∧ "DoorWalk" ≠ "java/lang/invoke/VarHandle" ∧ (parseMethodDescriptor "(I)I").map (fun d => d.parameters.length) = some 1 := ⟨kwt3 18 (by rfl) rfl, kwt3 19 (by rfl) rfl, kwt1 1 (by rfl) rfl, kwt3 20 (by rfl) rfl, by decide, by decide, by decide +kernel⟩
set_option maxRecDepth 100000 in
theorem cv_L_88 : CWV "DoorWalkLaw" 88 yX7_outer cX7_outer 4 (some .int) 1 := ⟨kwt3 17 (by rfl) rfl, mv_X7_outer⟩
set_option maxRecDepth 100000 in
theorem cv_X7_204 : CWV "DoorWalk" 204 yX3_clear cX3_clear 1 none 0 := ⟨kwt3 21 (by rfl) rfl, mv_X3_clear⟩
set_option maxRecDepth 100000 in
theorem mv_X0_isOuter : Cond.instanceMethod yX0_isOuter ∈ TB ∧ Cond.selects "DoorWalk$Doors" yX0_isOuter yX0_isOuter ∈ TB ∧ Cond.initialized "DoorWalk$Doors" ∈ TB ∧ Cond.code yX0_isOuter cX0_isOuter 4 (some .boolean) ∈ TB ∧ "DoorWalk$Doors" ≠ "java/lang/invoke/MethodHandle" ∧ "DoorWalk$Doors" ≠ "java/lang/invoke/VarHandle" ∧ (parseMethodDescriptor "(LDoorWalk$Grid;II)Z").map (fun d => d.parameters.length) = some 3 := ⟨kwt3 23 (by rfl) rfl, kwt3 24 (by rfl) rfl, kwt1 7 (by rfl) rfl, kwt3 25 (by rfl) rfl, by decide, by decide, by decide +kernel⟩
set_option maxRecDepth 100000 in
theorem cv_X7_207 : CWV "DoorWalk" 207 yX0_isOuter cX0_isOuter 4 (some .boolean) 3 := ⟨kwt3 22 (by rfl) rfl, mv_X0_isOuter⟩
set_option maxRecDepth 100000 in
theorem mv_X1_sideCell : Cond.instanceMethod yX1_sideCell ∈ TB ∧ Cond.selects "DoorWalk$Grid" yX1_sideCell yX1_sideCell ∈ TB ∧ Cond.initialized "DoorWalk$Grid" ∈ TB ∧ Cond.code yX1_sideCell cX1_sideCell 3 (some .int) ∈ TB ∧ "DoorWalk$Grid" ≠ "java/lang/invoke/MethodHandle" ∧ "DoorWalk$Grid" ≠ "java/lang/invoke/VarHandle" ∧ (parseMethodDescriptor "(II)I").map (fun d => d.parameters.length) = some 2 := ⟨kwt3 27 (by rfl) rfl, kwt3 28 (by rfl) rfl, kwt1 5 (by rfl) rfl, kwt3 29 (by rfl) rfl, by decide, by decide, by decide +kernel⟩
set_option maxRecDepth 100000 in
theorem cv_X0_39 : CWV "DoorWalk$Doors" 39 yX1_sideCell cX1_sideCell 3 (some .int) 2 := ⟨kwt3 26 (by rfl) rfl, mv_X1_sideCell⟩
set_option maxRecDepth 100000 in
theorem mv_X1_cellAt : Cond.instanceMethod yX1_cellAt ∈ TB ∧ Cond.selects "DoorWalk$Grid" yX1_cellAt yX1_cellAt ∈ TB ∧ Cond.initialized "DoorWalk$Grid" ∈ TB ∧ Cond.code yX1_cellAt cX1_cellAt 4 (some .int) ∈ TB ∧ "DoorWalk$Grid" ≠ "java/lang/invoke/MethodHandle" ∧ "DoorWalk$Grid" ≠ "java/lang/invoke/VarHandle" ∧ (parseMethodDescriptor "(III)I").map (fun d => d.parameters.length) = some 3 := ⟨kwt3 31 (by rfl) rfl, kwt3 32 (by rfl) rfl, kwt1 5 (by rfl) rfl, kwt3 33 (by rfl) rfl, by decide, by decide, by decide +kernel⟩
set_option maxRecDepth 100000 in
theorem cv_X1_139 : CWV "DoorWalk$Grid" 139 yX1_cellAt cX1_cellAt 4 (some .int) 3 := ⟨kwt3 30 (by rfl) rfl, mv_X1_cellAt⟩
set_option maxRecDepth 100000 in
theorem mv_X0_sideEdge : Cond.instanceMethod yX0_sideEdge ∈ TB ∧ Cond.selects "DoorWalk$Doors" yX0_sideEdge yX0_sideEdge ∈ TB ∧ Cond.initialized "DoorWalk$Doors" ∈ TB ∧ Cond.code yX0_sideEdge cX0_sideEdge 2 (some .int) ∈ TB ∧ "DoorWalk$Doors" ≠ "java/lang/invoke/MethodHandle" ∧ "DoorWalk$Doors" ≠ "java/lang/invoke/VarHandle" ∧ (parseMethodDescriptor "(I)I").map (fun d => d.parameters.length) = some 1 := ⟨kwt3 35 (by rfl) rfl, kwt3 36 (by rfl) rfl, kwt1 7 (by rfl) rfl, kwt3 37 (by rfl) rfl, by decide, by decide, by decide +kernel⟩
set_option maxRecDepth 100000 in
theorem cv_X0_42 : CWV "DoorWalk$Doors" 42 yX0_sideEdge cX0_sideEdge 2 (some .int) 1 := ⟨kwt3 34 (by rfl) rfl, mv_X0_sideEdge⟩
set_option maxRecDepth 100000 in
theorem mv_X0_isDoor : Cond.instanceMethod yX0_isDoor ∈ TB ∧ Cond.selects "DoorWalk$Doors" yX0_isDoor yX0_isDoor ∈ TB ∧ Cond.initialized "DoorWalk$Doors" ∈ TB ∧ Cond.code yX0_isDoor cX0_isDoor 7 (some .boolean) ∈ TB ∧ "DoorWalk$Doors" ≠ "java/lang/invoke/MethodHandle" ∧ "DoorWalk$Doors" ≠ "java/lang/invoke/VarHandle" ∧ (parseMethodDescriptor "(LDoorWalk$Grid;III)Z").map (fun d => d.parameters.length) = some 4 := ⟨kwt3 39 (by rfl) rfl, kwt3 40 (by rfl) rfl, kwt1 7 (by rfl) rfl, kwt3 41 (by rfl) rfl, by decide, by decide, by decide +kernel⟩
set_option maxRecDepth 100000 in
theorem cv_X0_35 : CWV "DoorWalk$Doors" 35 yX0_isDoor cX0_isDoor 7 (some .boolean) 4 := ⟨kwt3 38 (by rfl) rfl, mv_X0_isDoor⟩
set_option maxRecDepth 100000 in
theorem cv_X0_29 : CWV "DoorWalk$Doors" 29 yX1_cornerLabel cX1_cornerLabel 7 (some .int) 2 := ⟨kwt3 42 (by rfl) rfl, mv_X1_cornerLabel⟩
set_option maxRecDepth 100000 in
theorem cv_X7_211 : CWV "DoorWalk" 211 yX1_sideCell cX1_sideCell 3 (some .int) 2 := ⟨kwt3 43 (by rfl) rfl, mv_X1_sideCell⟩
set_option maxRecDepth 100000 in
theorem cv_X7_214 : CWV "DoorWalk" 214 yX3_add cX3_add 3 none 1 := ⟨kwt3 44 (by rfl) rfl, mv_X3_add⟩
set_option maxRecDepth 100000 in
theorem mv_X7_doors : Cond.instanceMethod yX7_doors ∈ TB ∧ Cond.selects "DoorWalk" yX7_doors yX7_doors ∈ TB ∧ Cond.initialized "DoorWalk" ∈ TB ∧ Cond.code yX7_doors cX7_doors 9 (some .int) ∈ TB ∧ "DoorWalk" ≠ "java/lang/invoke/MethodHandle" ∧ "DoorWalk" ≠ "java/lang/invoke/VarHandle" ∧ (parseMethodDescriptor "(I)I").map (fun d => d.parameters.length) = some 1 := ⟨kwt3 46 (by rfl) rfl, kwt3 47 (by rfl) rfl, kwt1 1 (by rfl) rfl, kwt3 48 (by rfl) rfl, by decide, by decide, by decide +kernel⟩
set_option maxRecDepth 100000 in
theorem cv_L_92 : CWV "DoorWalkLaw" 92 yX7_doors cX7_doors 9 (some .int) 1 := ⟨kwt3 45 (by rfl) rfl, mv_X7_doors⟩
set_option maxRecDepth 100000 in
theorem cv_X7_217 : CWV "DoorWalk" 217 yX0_isDoor cX0_isDoor 7 (some .boolean) 4 := ⟨kwt3 49 (by rfl) rfl, mv_X0_isDoor⟩
set_option maxRecDepth 100000 in
theorem mv_X7_walk : Cond.instanceMethod yX7_walk ∈ TB ∧ Cond.selects "DoorWalk" yX7_walk yX7_walk ∈ TB ∧ Cond.initialized "DoorWalk" ∈ TB ∧ Cond.code yX7_walk cX7_walk 5 (some .int) ∈ TB ∧ "DoorWalk" ≠ "java/lang/invoke/MethodHandle" ∧ "DoorWalk" ≠ "java/lang/invoke/VarHandle" ∧ (parseMethodDescriptor "(II)I").map (fun d => d.parameters.length) = some 2 := ⟨kwt3 51 (by rfl) rfl, kwt3 52 (by rfl) rfl, kwt1 1 (by rfl) rfl, kwt3 53 (by rfl) rfl, by decide, by decide, by decide +kernel⟩
set_option maxRecDepth 100000 in
theorem cv_L_96 : CWV "DoorWalkLaw" 96 yX7_walk cX7_walk 5 (some .int) 2 := ⟨kwt3 50 (by rfl) rfl, mv_X7_walk⟩
set_option maxRecDepth 100000 in
theorem mv_X0_placeOf : Cond.instanceMethod yX0_placeOf ∈ TB ∧ Cond.selects "DoorWalk$Doors" yX0_placeOf yX0_placeOf ∈ TB ∧ Cond.initialized "DoorWalk$Doors" ∈ TB ∧ Cond.code yX0_placeOf cX0_placeOf 6 (some .int) ∈ TB ∧ "DoorWalk$Doors" ≠ "java/lang/invoke/MethodHandle" ∧ "DoorWalk$Doors" ≠ "java/lang/invoke/VarHandle" ∧ (parseMethodDescriptor "(LDoorWalk$Grid;II)I").map (fun d => d.parameters.length) = some 3 := ⟨kwt3 55 (by rfl) rfl, kwt3 56 (by rfl) rfl, kwt1 7 (by rfl) rfl, kwt3 57 (by rfl) rfl, by decide, by decide, by decide +kernel⟩
set_option maxRecDepth 100000 in
theorem cv_X7_221 : CWV "DoorWalk" 221 yX0_placeOf cX0_placeOf 6 (some .int) 3 := ⟨kwt3 54 (by rfl) rfl, mv_X0_placeOf⟩
set_option maxRecDepth 100000 in
theorem cv_X0_46 : CWV "DoorWalk$Doors" 46 yX0_isOuter cX0_isOuter 4 (some .boolean) 3 := ⟨kwt3 58 (by rfl) rfl, mv_X0_isOuter⟩
set_option maxRecDepth 100000 in
theorem mv_X0_enter : Cond.instanceMethod yX0_enter ∈ TB ∧ Cond.selects "DoorWalk$Doors" yX0_enter yX0_enter ∈ TB ∧ Cond.initialized "DoorWalk$Doors" ∈ TB ∧ Cond.code yX0_enter cX0_enter 4 none ∈ TB ∧ "DoorWalk$Doors" ≠ "java/lang/invoke/MethodHandle" ∧ "DoorWalk$Doors" ≠ "java/lang/invoke/VarHandle" ∧ (parseMethodDescriptor "(LDoorWalk$Grid;II)V").map (fun d => d.parameters.length) = some 3 := ⟨kwt3 60 (by rfl) rfl, kwt3 61 (by rfl) rfl, kwt1 7 (by rfl) rfl, kwt3 62 (by rfl) rfl, by decide, by decide, by decide +kernel⟩
set_option maxRecDepth 100000 in
theorem cv_X7_225 : CWV "DoorWalk" 225 yX0_enter cX0_enter 4 none 3 := ⟨kwt3 59 (by rfl) rfl, mv_X0_enter⟩
set_option maxRecDepth 100000 in
theorem mv_X0_follow : Cond.instanceMethod yX0_follow ∈ TB ∧ Cond.selects "DoorWalk$Doors" yX0_follow yX0_follow ∈ TB ∧ Cond.initialized "DoorWalk$Doors" ∈ TB ∧ Cond.code yX0_follow cX0_follow 7 none ∈ TB ∧ "DoorWalk$Doors" ≠ "java/lang/invoke/MethodHandle" ∧ "DoorWalk$Doors" ≠ "java/lang/invoke/VarHandle" ∧ (parseMethodDescriptor "(LDoorWalk$Grid;III)V").map (fun d => d.parameters.length) = some 4 := ⟨kwt3 64 (by rfl) rfl, kwt3 65 (by rfl) rfl, kwt1 7 (by rfl) rfl, kwt3 66 (by rfl) rfl, by decide, by decide, by decide +kernel⟩
set_option maxRecDepth 100000 in
theorem cv_X0_57 : CWV "DoorWalk$Doors" 57 yX0_follow cX0_follow 7 none 4 := ⟨kwt3 63 (by rfl) rfl, mv_X0_follow⟩
set_option maxRecDepth 100000 in
theorem mv_X0_nextDoor : Cond.instanceMethod yX0_nextDoor ∈ TB ∧ Cond.selects "DoorWalk$Doors" yX0_nextDoor yX0_nextDoor ∈ TB ∧ Cond.initialized "DoorWalk$Doors" ∈ TB ∧ Cond.code yX0_nextDoor cX0_nextDoor 6 (some .int) ∈ TB ∧ "DoorWalk$Doors" ≠ "java/lang/invoke/MethodHandle" ∧ "DoorWalk$Doors" ≠ "java/lang/invoke/VarHandle" ∧ (parseMethodDescriptor "(LDoorWalk$Grid;III)I").map (fun d => d.parameters.length) = some 4 := ⟨kwt3 68 (by rfl) rfl, kwt3 69 (by rfl) rfl, kwt1 7 (by rfl) rfl, kwt3 70 (by rfl) rfl, by decide, by decide, by decide +kernel⟩
set_option maxRecDepth 100000 in
theorem cv_X0_61 : CWV "DoorWalk$Doors" 61 yX0_nextDoor cX0_nextDoor 6 (some .int) 4 := ⟨kwt3 67 (by rfl) rfl, mv_X0_nextDoor⟩
set_option maxRecDepth 100000 in
theorem mv_X1_beyond : Cond.instanceMethod yX1_beyond ∈ TB ∧ Cond.selects "DoorWalk$Grid" yX1_beyond yX1_beyond ∈ TB ∧ Cond.initialized "DoorWalk$Grid" ∈ TB ∧ Cond.code yX1_beyond cX1_beyond 7 (some .int) ∈ TB ∧ "DoorWalk$Grid" ≠ "java/lang/invoke/MethodHandle" ∧ "DoorWalk$Grid" ≠ "java/lang/invoke/VarHandle" ∧ (parseMethodDescriptor "(II)I").map (fun d => d.parameters.length) = some 2 := ⟨kwt3 72 (by rfl) rfl, kwt3 73 (by rfl) rfl, kwt1 5 (by rfl) rfl, kwt3 74 (by rfl) rfl, by decide, by decide, by decide +kernel⟩
set_option maxRecDepth 100000 in
theorem cv_X0_65 : CWV "DoorWalk$Doors" 65 yX1_beyond cX1_beyond 7 (some .int) 2 := ⟨kwt3 71 (by rfl) rfl, mv_X1_beyond⟩
set_option maxRecDepth 100000 in
theorem mv_X0_last : Cond.instanceMethod yX0_last ∈ TB ∧ Cond.selects "DoorWalk$Doors" yX0_last yX0_last ∈ TB ∧ Cond.initialized "DoorWalk$Doors" ∈ TB ∧ Cond.code yX0_last cX0_last 1 (some .int) ∈ TB ∧ "DoorWalk$Doors" ≠ "java/lang/invoke/MethodHandle" ∧ "DoorWalk$Doors" ≠ "java/lang/invoke/VarHandle" ∧ (parseMethodDescriptor "()I").map (fun d => d.parameters.length) = some 0 := ⟨kwt3 76 (by rfl) rfl, kwt3 77 (by rfl) rfl, kwt1 7 (by rfl) rfl, kwt3 78 (by rfl) rfl, by decide, by decide, by decide +kernel⟩
set_option maxRecDepth 100000 in
theorem cv_X7_229 : CWV "DoorWalk" 229 yX0_last cX0_last 1 (some .int) 0 := ⟨kwt3 75 (by rfl) rfl, mv_X0_last⟩
set_option maxRecDepth 100000 in
theorem mv_X0_cellOfWay : Cond.instanceMethod yX0_cellOfWay ∈ TB ∧ Cond.selects "DoorWalk$Doors" yX0_cellOfWay yX0_cellOfWay ∈ TB ∧ Cond.initialized "DoorWalk$Doors" ∈ TB ∧ Cond.code yX0_cellOfWay cX0_cellOfWay 2 (some .int) ∈ TB ∧ "DoorWalk$Doors" ≠ "java/lang/invoke/MethodHandle" ∧ "DoorWalk$Doors" ≠ "java/lang/invoke/VarHandle" ∧ (parseMethodDescriptor "(I)I").map (fun d => d.parameters.length) = some 1 := ⟨kwt3 80 (by rfl) rfl, kwt3 81 (by rfl) rfl, kwt1 7 (by rfl) rfl, kwt3 82 (by rfl) rfl, by decide, by decide, by decide +kernel⟩
set_option maxRecDepth 100000 in
theorem cv_X0_68 : CWV "DoorWalk$Doors" 68 yX0_cellOfWay cX0_cellOfWay 2 (some .int) 1 := ⟨kwt3 79 (by rfl) rfl, mv_X0_cellOfWay⟩
set_option maxRecDepth 100000 in
theorem mv_X0_outDoor : Cond.instanceMethod yX0_outDoor ∈ TB ∧ Cond.selects "DoorWalk$Doors" yX0_outDoor yX0_outDoor ∈ TB ∧ Cond.initialized "DoorWalk$Doors" ∈ TB ∧ Cond.code yX0_outDoor cX0_outDoor 3 (some .int) ∈ TB ∧ "DoorWalk$Doors" ≠ "java/lang/invoke/MethodHandle" ∧ "DoorWalk$Doors" ≠ "java/lang/invoke/VarHandle" ∧ (parseMethodDescriptor "(LDoorWalk$Grid;I)I").map (fun d => d.parameters.length) = some 2 := ⟨kwt3 84 (by rfl) rfl, kwt3 85 (by rfl) rfl, kwt1 7 (by rfl) rfl, kwt3 86 (by rfl) rfl, by decide, by decide, by decide +kernel⟩
set_option maxRecDepth 100000 in
theorem cv_X7_232 : CWV "DoorWalk" 232 yX0_outDoor cX0_outDoor 3 (some .int) 2 := ⟨kwt3 83 (by rfl) rfl, mv_X0_outDoor⟩
set_option maxRecDepth 100000 in
theorem cv_X0_71 : CWV "DoorWalk$Doors" 71 yX0_last cX0_last 1 (some .int) 0 := ⟨kwt3 87 (by rfl) rfl, mv_X0_last⟩
set_option maxRecDepth 100000 in
theorem mv_X1_sidePlace : Cond.instanceMethod yX1_sidePlace ∈ TB ∧ Cond.selects "DoorWalk$Grid" yX1_sidePlace yX1_sidePlace ∈ TB ∧ Cond.initialized "DoorWalk$Grid" ∈ TB ∧ Cond.code yX1_sidePlace cX1_sidePlace 3 (some .int) ∈ TB ∧ "DoorWalk$Grid" ≠ "java/lang/invoke/MethodHandle" ∧ "DoorWalk$Grid" ≠ "java/lang/invoke/VarHandle" ∧ (parseMethodDescriptor "(II)I").map (fun d => d.parameters.length) = some 2 := ⟨kwt3 89 (by rfl) rfl, kwt3 90 (by rfl) rfl, kwt1 5 (by rfl) rfl, kwt3 91 (by rfl) rfl, by decide, by decide, by decide +kernel⟩
set_option maxRecDepth 100000 in
theorem cv_X0_75 : CWV "DoorWalk$Doors" 75 yX1_sidePlace cX1_sidePlace 3 (some .int) 2 := ⟨kwt3 88 (by rfl) rfl, mv_X1_sidePlace⟩
set_option maxRecDepth 100000 in
theorem mv_X0_outersBefore : Cond.instanceMethod yX0_outersBefore ∈ TB ∧ Cond.selects "DoorWalk$Doors" yX0_outersBefore yX0_outersBefore ∈ TB ∧ Cond.initialized "DoorWalk$Doors" ∈ TB ∧ Cond.code yX0_outersBefore cX0_outersBefore 6 (some .int) ∈ TB ∧ "DoorWalk$Doors" ≠ "java/lang/invoke/MethodHandle" ∧ "DoorWalk$Doors" ≠ "java/lang/invoke/VarHandle" ∧ (parseMethodDescriptor "(LDoorWalk$Grid;II)I").map (fun d => d.parameters.length) = some 3 := ⟨kwt3 93 (by rfl) rfl, kwt3 94 (by rfl) rfl, kwt1 7 (by rfl) rfl, kwt3 95 (by rfl) rfl, by decide, by decide, by decide +kernel⟩
set_option maxRecDepth 100000 in
theorem cv_X0_53 : CWV "DoorWalk$Doors" 53 yX0_outersBefore cX0_outersBefore 6 (some .int) 3 := ⟨kwt3 92 (by rfl) rfl, mv_X0_outersBefore⟩
set_option maxRecDepth 100000 in
theorem mv_X7_from : Cond.instanceMethod yX7_from ∈ TB ∧ Cond.selects "DoorWalk" yX7_from yX7_from ∈ TB ∧ Cond.initialized "DoorWalk" ∈ TB ∧ Cond.code yX7_from cX7_from 6 (some .int) ∈ TB ∧ "DoorWalk" ≠ "java/lang/invoke/MethodHandle" ∧ "DoorWalk" ≠ "java/lang/invoke/VarHandle" ∧ (parseMethodDescriptor "(II)I").map (fun d => d.parameters.length) = some 2 := ⟨kwt3 97 (by rfl) rfl, kwt3 98 (by rfl) rfl, kwt1 1 (by rfl) rfl, kwt3 99 (by rfl) rfl, by decide, by decide, by decide +kernel⟩
set_option maxRecDepth 100000 in
theorem cv_L_104 : CWV "DoorWalkLaw" 104 yX7_from cX7_from 6 (some .int) 2 := ⟨kwt3 96 (by rfl) rfl, mv_X7_from⟩
set_option maxRecDepth 100000 in
theorem cv_X7_244 : CWV "DoorWalk" 244 yX0_nextDoor cX0_nextDoor 6 (some .int) 4 := ⟨kwt3 100 (by rfl) rfl, mv_X0_nextDoor⟩
set_option maxRecDepth 100000 in
theorem cv_X7_248 : CWV "DoorWalk" 248 yX1_beyond cX1_beyond 7 (some .int) 2 := ⟨kwt3 101 (by rfl) rfl, mv_X1_beyond⟩
set_option maxRecDepth 100000 in
theorem cv_X7_251 : CWV "DoorWalk" 251 yX1_sidePlace cX1_sidePlace 3 (some .int) 2 := ⟨kwt3 102 (by rfl) rfl, mv_X1_sidePlace⟩
set_option maxRecDepth 100000 in
theorem cv_X7_254 : CWV "DoorWalk" 254 yX0_outersBefore cX0_outersBefore 6 (some .int) 3 := ⟨kwt3 103 (by rfl) rfl, mv_X0_outersBefore⟩
set_option maxRecDepth 100000 in
theorem cv_X7_257 : CWV "DoorWalk" 257 yX0_follow cX0_follow 7 none 4 := ⟨kwt3 104 (by rfl) rfl, mv_X0_follow⟩
set_option maxRecDepth 100000 in
theorem mv_X7_hidden : Cond.instanceMethod yX7_hidden ∈ TB ∧ Cond.selects "DoorWalk" yX7_hidden yX7_hidden ∈ TB ∧ Cond.initialized "DoorWalk" ∈ TB ∧ Cond.code yX7_hidden cX7_hidden 5 (some .int) ∈ TB ∧ "DoorWalk" ≠ "java/lang/invoke/MethodHandle" ∧ "DoorWalk" ≠ "java/lang/invoke/VarHandle" ∧ (parseMethodDescriptor "(I)I").map (fun d => d.parameters.length) = some 1 := ⟨kwt3 106 (by rfl) rfl, kwt3 107 (by rfl) rfl, kwt1 1 (by rfl) rfl, kwt3 108 (by rfl) rfl, by decide, by decide, by decide +kernel⟩
set_option maxRecDepth 100000 in
theorem cv_L_108 : CWV "DoorWalkLaw" 108 yX7_hidden cX7_hidden 5 (some .int) 1 := ⟨kwt3 105 (by rfl) rfl, mv_X7_hidden⟩
set_option maxRecDepth 100000 in
theorem mv_X0_clearSeen : Cond.instanceMethod yX0_clearSeen ∈ TB ∧ Cond.selects "DoorWalk$Doors" yX0_clearSeen yX0_clearSeen ∈ TB ∧ Cond.initialized "DoorWalk$Doors" ∈ TB ∧ Cond.code yX0_clearSeen cX0_clearSeen 1 none ∈ TB ∧ "DoorWalk$Doors" ≠ "java/lang/invoke/MethodHandle" ∧ "DoorWalk$Doors" ≠ "java/lang/invoke/VarHandle" ∧ (parseMethodDescriptor "()V").map (fun d => d.parameters.length) = some 0 := ⟨kwt3 110 (by rfl) rfl, kwt3 111 (by rfl) rfl, kwt1 7 (by rfl) rfl, kwt3 112 (by rfl) rfl, by decide, by decide, by decide +kernel⟩
set_option maxRecDepth 100000 in
theorem cv_X7_261 : CWV "DoorWalk" 261 yX0_clearSeen cX0_clearSeen 1 none 0 := ⟨kwt3 109 (by rfl) rfl, mv_X0_clearSeen⟩
set_option maxRecDepth 100000 in
theorem ms_J7_fill_53178 : Cond.static yJ7_fill_53178 ∈ TB ∧ Cond.initialized "java/util/Arrays" ∈ TB ∧ Cond.code yJ7_fill_53178 cJ7_fill_53178 4 none ∈ TB ∧ "java/util/Arrays" ≠ "java/lang/invoke/MethodHandle" ∧ "java/util/Arrays" ≠ "java/lang/invoke/VarHandle" ∧ (parseMethodDescriptor "([II)V").map (fun d => d.parameters.length) = some 2 := ⟨kwt3 114 (by rfl) rfl, kwt1 16 (by rfl) rfl, kwt3 115 (by rfl) rfl, by decide, by decide, by decide +kernel⟩
set_option maxRecDepth 100000 in
theorem cs_X0_78 : CWS "DoorWalk$Doors" 78 yJ7_fill_53178 cJ7_fill_53178 4 none 2 := ⟨kwt3 113 (by rfl) rfl, ms_J7_fill_53178⟩
set_option maxRecDepth 100000 in
theorem mv_X0_seeWalks : Cond.instanceMethod yX0_seeWalks ∈ TB ∧ Cond.selects "DoorWalk$Doors" yX0_seeWalks yX0_seeWalks ∈ TB ∧ Cond.initialized "DoorWalk$Doors" ∈ TB ∧ Cond.code yX0_seeWalks cX0_seeWalks 6 (some .int) ∈ TB ∧ "DoorWalk$Doors" ≠ "java/lang/invoke/MethodHandle" ∧ "DoorWalk$Doors" ≠ "java/lang/invoke/VarHandle" ∧ (parseMethodDescriptor "(LDoorWalk$Grid;I)I").map (fun d => d.parameters.length) = some 2 := ⟨kwt3 117 (by rfl) rfl, kwt3 118 (by rfl) rfl, kwt1 7 (by rfl) rfl, kwt3 119 (by rfl) rfl, by decide, by decide, by decide +kernel⟩
set_option maxRecDepth 100000 in
theorem cv_X7_264 : CWV "DoorWalk" 264 yX0_seeWalks cX0_seeWalks 6 (some .int) 2 := ⟨kwt3 116 (by rfl) rfl, mv_X0_seeWalks⟩
set_option maxRecDepth 100000 in
theorem mv_X0_seeWay : Cond.instanceMethod yX0_seeWay ∈ TB ∧ Cond.selects "DoorWalk$Doors" yX0_seeWay yX0_seeWay ∈ TB ∧ Cond.initialized "DoorWalk$Doors" ∈ TB ∧ Cond.code yX0_seeWay cX0_seeWay 4 none ∈ TB ∧ "DoorWalk$Doors" ≠ "java/lang/invoke/MethodHandle" ∧ "DoorWalk$Doors" ≠ "java/lang/invoke/VarHandle" ∧ (parseMethodDescriptor "(I)V").map (fun d => d.parameters.length) = some 1 := ⟨kwt3 121 (by rfl) rfl, kwt3 122 (by rfl) rfl, kwt1 7 (by rfl) rfl, kwt3 123 (by rfl) rfl, by decide, by decide, by decide +kernel⟩
set_option maxRecDepth 100000 in
theorem cv_X0_84 : CWV "DoorWalk$Doors" 84 yX0_seeWay cX0_seeWay 4 none 1 := ⟨kwt3 120 (by rfl) rfl, mv_X0_seeWay⟩
set_option maxRecDepth 100000 in
theorem mv_X0_seenBy : Cond.instanceMethod yX0_seenBy ∈ TB ∧ Cond.selects "DoorWalk$Doors" yX0_seenBy yX0_seenBy ∈ TB ∧ Cond.initialized "DoorWalk$Doors" ∈ TB ∧ Cond.code yX0_seenBy cX0_seenBy 2 (some .int) ∈ TB ∧ "DoorWalk$Doors" ≠ "java/lang/invoke/MethodHandle" ∧ "DoorWalk$Doors" ≠ "java/lang/invoke/VarHandle" ∧ (parseMethodDescriptor "(I)I").map (fun d => d.parameters.length) = some 1 := ⟨kwt3 125 (by rfl) rfl, kwt3 126 (by rfl) rfl, kwt1 7 (by rfl) rfl, kwt3 127 (by rfl) rfl, by decide, by decide, by decide +kernel⟩
set_option maxRecDepth 100000 in
theorem cv_X7_267 : CWV "DoorWalk" 267 yX0_seenBy cX0_seenBy 2 (some .int) 1 := ⟨kwt3 124 (by rfl) rfl, mv_X0_seenBy⟩
set_option maxRecDepth 100000 in
theorem mv_X7_longest : Cond.instanceMethod yX7_longest ∈ TB ∧ Cond.selects "DoorWalk" yX7_longest yX7_longest ∈ TB ∧ Cond.initialized "DoorWalk" ∈ TB ∧ Cond.code yX7_longest cX7_longest 5 (some .int) ∈ TB ∧ "DoorWalk" ≠ "java/lang/invoke/MethodHandle" ∧ "DoorWalk" ≠ "java/lang/invoke/VarHandle" ∧ (parseMethodDescriptor "(I)I").map (fun d => d.parameters.length) = some 1 := ⟨kwt3 129 (by rfl) rfl, kwt3 130 (by rfl) rfl, kwt1 1 (by rfl) rfl, kwt3 131 (by rfl) rfl, by decide, by decide, by decide +kernel⟩
set_option maxRecDepth 100000 in
theorem cv_L_112 : CWV "DoorWalkLaw" 112 yX7_longest cX7_longest 5 (some .int) 1 := ⟨kwt3 128 (by rfl) rfl, mv_X7_longest⟩
set_option maxRecDepth 100000 in
theorem mv_X7_crossed : Cond.instanceMethod yX7_crossed ∈ TB ∧ Cond.selects "DoorWalk" yX7_crossed yX7_crossed ∈ TB ∧ Cond.initialized "DoorWalk" ∈ TB ∧ Cond.code yX7_crossed cX7_crossed 4 (some .int) ∈ TB ∧ "DoorWalk" ≠ "java/lang/invoke/MethodHandle" ∧ "DoorWalk" ≠ "java/lang/invoke/VarHandle" ∧ (parseMethodDescriptor "()I").map (fun d => d.parameters.length) = some 0 := ⟨kwt3 133 (by rfl) rfl, kwt3 134 (by rfl) rfl, kwt1 1 (by rfl) rfl, kwt3 135 (by rfl) rfl, by decide, by decide, by decide +kernel⟩
set_option maxRecDepth 100000 in
theorem cv_L_116 : CWV "DoorWalkLaw" 116 yX7_crossed cX7_crossed 4 (some .int) 0 := ⟨kwt3 132 (by rfl) rfl, mv_X7_crossed⟩
set_option maxRecDepth 100000 in
theorem mv_X7_leads : Cond.instanceMethod yX7_leads ∈ TB ∧ Cond.selects "DoorWalk" yX7_leads yX7_leads ∈ TB ∧ Cond.initialized "DoorWalk" ∈ TB ∧ Cond.code yX7_leads cX7_leads 8 (some .int) ∈ TB ∧ "DoorWalk" ≠ "java/lang/invoke/MethodHandle" ∧ "DoorWalk" ≠ "java/lang/invoke/VarHandle" ∧ (parseMethodDescriptor "(III)I").map (fun d => d.parameters.length) = some 3 := ⟨kwt3 137 (by rfl) rfl, kwt3 138 (by rfl) rfl, kwt1 1 (by rfl) rfl, kwt3 139 (by rfl) rfl, by decide, by decide, by decide +kernel⟩
set_option maxRecDepth 100000 in
theorem cv_L_120 : CWV "DoorWalkLaw" 120 yX7_leads cX7_leads 8 (some .int) 3 := ⟨kwt3 136 (by rfl) rfl, mv_X7_leads⟩
set_option maxRecDepth 100000 in
theorem mv_X0_cellsTo : Cond.instanceMethod yX0_cellsTo ∈ TB ∧ Cond.selects "DoorWalk$Doors" yX0_cellsTo yX0_cellsTo ∈ TB ∧ Cond.initialized "DoorWalk$Doors" ∈ TB ∧ Cond.code yX0_cellsTo cX0_cellsTo 9 (some .int) ∈ TB ∧ "DoorWalk$Doors" ≠ "java/lang/invoke/MethodHandle" ∧ "DoorWalk$Doors" ≠ "java/lang/invoke/VarHandle" ∧ (parseMethodDescriptor "(LDoorWalk$Grid;IIII)I").map (fun d => d.parameters.length) = some 5 := ⟨kwt3 141 (by rfl) rfl, kwt3 142 (by rfl) rfl, kwt1 7 (by rfl) rfl, kwt3 143 (by rfl) rfl, by decide, by decide, by decide +kernel⟩
set_option maxRecDepth 100000 in
theorem cv_X7_273 : CWV "DoorWalk" 273 yX0_cellsTo cX0_cellsTo 9 (some .int) 5 := ⟨kwt3 140 (by rfl) rfl, mv_X0_cellsTo⟩
set_option maxRecDepth 100000 in
theorem mv_X7_finer : Cond.instanceMethod yX7_finer ∈ TB ∧ Cond.selects "DoorWalk" yX7_finer yX7_finer ∈ TB ∧ Cond.initialized "DoorWalk" ∈ TB ∧ Cond.code yX7_finer cX7_finer 2 (some .int) ∈ TB ∧ "DoorWalk" ≠ "java/lang/invoke/MethodHandle" ∧ "DoorWalk" ≠ "java/lang/invoke/VarHandle" ∧ (parseMethodDescriptor "(I)I").map (fun d => d.parameters.length) = some 1 := ⟨kwt3 145 (by rfl) rfl, kwt3 146 (by rfl) rfl, kwt1 1 (by rfl) rfl, kwt3 147 (by rfl) rfl, by decide, by decide, by decide +kernel⟩
set_option maxRecDepth 100000 in
theorem cv_L_124 : CWV "DoorWalkLaw" 124 yX7_finer cX7_finer 2 (some .int) 1 := ⟨kwt3 144 (by rfl) rfl, mv_X7_finer⟩
set_option maxRecDepth 100000 in
theorem ms_X7_isGrid : Cond.static yX7_isGrid ∈ TB ∧ Cond.initialized "DoorWalk" ∈ TB ∧ Cond.code yX7_isGrid cX7_isGrid 1 (some .boolean) ∈ TB ∧ "DoorWalk" ≠ "java/lang/invoke/MethodHandle" ∧ "DoorWalk" ≠ "java/lang/invoke/VarHandle" ∧ (parseMethodDescriptor "(I)Z").map (fun d => d.parameters.length) = some 1 := ⟨kwt3 149 (by rfl) rfl, kwt1 1 (by rfl) rfl, kwt3 150 (by rfl) rfl, by decide, by decide, by decide +kernel⟩
set_option maxRecDepth 100000 in
theorem cs_X7_277 : CWS "DoorWalk" 277 yX7_isGrid cX7_isGrid 1 (some .boolean) 1 := ⟨kwt3 148 (by rfl) rfl, ms_X7_isGrid⟩
set_option maxRecDepth 100000 in
theorem mv_X7_layTrial : Cond.instanceMethod yX7_layTrial ∈ TB ∧ Cond.selects "DoorWalk" yX7_layTrial yX7_layTrial ∈ TB ∧ Cond.initialized "DoorWalk" ∈ TB ∧ Cond.code yX7_layTrial cX7_layTrial 2 none ∈ TB ∧ "DoorWalk" ≠ "java/lang/invoke/MethodHandle" ∧ "DoorWalk" ≠ "java/lang/invoke/VarHandle" ∧ (parseMethodDescriptor "(I)V").map (fun d => d.parameters.length) = some 1 := ⟨kwt3 153 (by rfl) rfl, kwp1 5 (by rfl) rfl, kwt1 1 (by rfl) rfl, kwt3 154 (by rfl) rfl, by decide, by decide, by decide +kernel⟩
set_option maxRecDepth 100000 in
theorem cv_X7_280 : CWV "DoorWalk" 280 yX7_layTrial cX7_layTrial 2 none 1 := ⟨kwt3 151 (by rfl) rfl, mv_X7_layTrial⟩
set_option maxRecDepth 100000 in
theorem mv_X7_within : Cond.instanceMethod yX7_within ∈ TB ∧ Cond.selects "DoorWalk" yX7_within yX7_within ∈ TB ∧ Cond.initialized "DoorWalk" ∈ TB ∧ Cond.code yX7_within cX7_within 7 (some .int) ∈ TB ∧ "DoorWalk" ≠ "java/lang/invoke/MethodHandle" ∧ "DoorWalk" ≠ "java/lang/invoke/VarHandle" ∧ (parseMethodDescriptor "(I)I").map (fun d => d.parameters.length) = some 1 := ⟨kwt3 156 (by rfl) rfl, kwt3 157 (by rfl) rfl, kwt1 1 (by rfl) rfl, kwt3 158 (by rfl) rfl, by decide, by decide, by decide +kernel⟩
set_option maxRecDepth 100000 in
theorem cv_L_128 : CWV "DoorWalkLaw" 128 yX7_within cX7_within 7 (some .int) 1 := ⟨kwt3 155 (by rfl) rfl, mv_X7_within⟩
set_option maxRecDepth 100000 in
theorem cv_X7_284 : CWV "DoorWalk" 284 yX1_cellI cX1_cellI 2 (some .int) 1 := ⟨kwt3 159 (by rfl) rfl, mv_X1_cellI⟩
set_option maxRecDepth 100000 in
theorem cv_X7_287 : CWV "DoorWalk" 287 yX1_cellJ cX1_cellJ 2 (some .int) 1 := ⟨kwt3 160 (by rfl) rfl, mv_X1_cellJ⟩
set_option maxRecDepth 100000 in
theorem cv_X7_290 : CWV "DoorWalk" 290 yX1_cellAt cX1_cellAt 4 (some .int) 3 := ⟨kwt3 161 (by rfl) rfl, mv_X1_cellAt⟩
set_option maxRecDepth 100000 in
theorem mv_X3_at : Cond.instanceMethod yX3_at ∈ TB ∧ Cond.selects "DoorWalk$Row" yX3_at yX3_at ∈ TB ∧ Cond.initialized "DoorWalk$Row" ∈ TB ∧ Cond.code yX3_at cX3_at 2 (some .long) ∈ TB ∧ "DoorWalk$Row" ≠ "java/lang/invoke/MethodHandle" ∧ "DoorWalk$Row" ≠ "java/lang/invoke/VarHandle" ∧ (parseMethodDescriptor "(I)J").map (fun d => d.parameters.length) = some 1 := ⟨kwt3 163 (by rfl) rfl, kwt3 164 (by rfl) rfl, kwt1 3 (by rfl) rfl, kwt3 165 (by rfl) rfl, by decide, by decide, by decide +kernel⟩
set_option maxRecDepth 100000 in
theorem cv_X7_294 : CWV "DoorWalk" 294 yX3_at cX3_at 2 (some .long) 1 := ⟨kwt3 162 (by rfl) rfl, mv_X3_at⟩
set_option maxRecDepth 100000 in
theorem mv_X7_inner : Cond.instanceMethod yX7_inner ∈ TB ∧ Cond.selects "DoorWalk" yX7_inner yX7_inner ∈ TB ∧ Cond.initialized "DoorWalk" ∈ TB ∧ Cond.code yX7_inner cX7_inner 2 (some .int) ∈ TB ∧ "DoorWalk" ≠ "java/lang/invoke/MethodHandle" ∧ "DoorWalk" ≠ "java/lang/invoke/VarHandle" ∧ (parseMethodDescriptor "()I").map (fun d => d.parameters.length) = some 0 := ⟨kwt3 168 (by rfl) rfl, kwt3 169 (by rfl) rfl, kwt1 1 (by rfl) rfl, kwt3 170 (by rfl) rfl, by decide, by decide, by decide +kernel⟩
set_option maxRecDepth 100000 in
theorem cv_L_132 : CWV "DoorWalkLaw" 132 yX7_inner cX7_inner 2 (some .int) 0 := ⟨kwt3 167 (by rfl) rfl, mv_X7_inner⟩
set_option maxRecDepth 100000 in
theorem mv_X1_isApart : Cond.instanceMethod yX1_isApart ∈ TB ∧ Cond.selects "DoorWalk$Grid" yX1_isApart yX1_isApart ∈ TB ∧ Cond.initialized "DoorWalk$Grid" ∈ TB ∧ Cond.code yX1_isApart cX1_isApart 3 (some .boolean) ∈ TB ∧ "DoorWalk$Grid" ≠ "java/lang/invoke/MethodHandle" ∧ "DoorWalk$Grid" ≠ "java/lang/invoke/VarHandle" ∧ (parseMethodDescriptor "(I)Z").map (fun d => d.parameters.length) = some 1 := ⟨kwt3 172 (by rfl) rfl, kwt3 173 (by rfl) rfl, kwt1 5 (by rfl) rfl, kwt3 174 (by rfl) rfl, by decide, by decide, by decide +kernel⟩
set_option maxRecDepth 100000 in
theorem cv_X7_298 : CWV "DoorWalk" 298 yX1_isApart cX1_isApart 3 (some .boolean) 1 := ⟨kwt3 171 (by rfl) rfl, mv_X1_isApart⟩
set_option maxRecDepth 100000 in
theorem mv_X1_cornerI : Cond.instanceMethod yX1_cornerI ∈ TB ∧ Cond.selects "DoorWalk$Grid" yX1_cornerI yX1_cornerI ∈ TB ∧ Cond.initialized "DoorWalk$Grid" ∈ TB ∧ Cond.code yX1_cornerI cX1_cornerI 4 (some .int) ∈ TB ∧ "DoorWalk$Grid" ≠ "java/lang/invoke/MethodHandle" ∧ "DoorWalk$Grid" ≠ "java/lang/invoke/VarHandle" ∧ (parseMethodDescriptor "(II)I").map (fun d => d.parameters.length) = some 2 := ⟨kwt3 176 (by rfl) rfl, kwt3 177 (by rfl) rfl, kwt1 5 (by rfl) rfl, kwt3 178 (by rfl) rfl, by decide, by decide, by decide +kernel⟩
set_option maxRecDepth 100000 in
theorem cv_X1_115 : CWV "DoorWalk$Grid" 115 yX1_cornerI cX1_cornerI 4 (some .int) 2 := ⟨kwt3 175 (by rfl) rfl, mv_X1_cornerI⟩
set_option maxRecDepth 100000 in
theorem mv_X1_cornerJ : Cond.instanceMethod yX1_cornerJ ∈ TB ∧ Cond.selects "DoorWalk$Grid" yX1_cornerJ yX1_cornerJ ∈ TB ∧ Cond.initialized "DoorWalk$Grid" ∈ TB ∧ Cond.code yX1_cornerJ cX1_cornerJ 4 (some .int) ∈ TB ∧ "DoorWalk$Grid" ≠ "java/lang/invoke/MethodHandle" ∧ "DoorWalk$Grid" ≠ "java/lang/invoke/VarHandle" ∧ (parseMethodDescriptor "(II)I").map (fun d => d.parameters.length) = some 2 := ⟨kwt3 182 (by rfl) rfl, kwt3 183 (by rfl) rfl, kwt1 5 (by rfl) rfl, kwt3 184 (by rfl) rfl, by decide, by decide, by decide +kernel⟩
set_option maxRecDepth 100000 in
theorem cv_X1_118 : CWV "DoorWalk$Grid" 118 yX1_cornerJ cX1_cornerJ 4 (some .int) 2 := ⟨kwt3 181 (by rfl) rfl, mv_X1_cornerJ⟩
set_option maxRecDepth 100000 in
theorem cv_X1_121 : CWV "DoorWalk$Grid" 121 yX1_onRim cX1_onRim 3 (some .boolean) 2 := ⟨kwt3 187 (by rfl) rfl, mv_X1_onRim⟩
set_option maxRecDepth 100000 in
theorem mv_X7_excess : Cond.instanceMethod yX7_excess ∈ TB ∧ Cond.selects "DoorWalk" yX7_excess yX7_excess ∈ TB ∧ Cond.initialized "DoorWalk" ∈ TB ∧ Cond.code yX7_excess cX7_excess 5 (some .int) ∈ TB ∧ "DoorWalk" ≠ "java/lang/invoke/MethodHandle" ∧ "DoorWalk" ≠ "java/lang/invoke/VarHandle" ∧ (parseMethodDescriptor "(II)I").map (fun d => d.parameters.length) = some 2 := ⟨kwt3 189 (by rfl) rfl, kwt3 190 (by rfl) rfl, kwt1 1 (by rfl) rfl, kwt3 191 (by rfl) rfl, by decide, by decide, by decide +kernel⟩
set_option maxRecDepth 100000 in
theorem cv_L_136 : CWV "DoorWalkLaw" 136 yX7_excess cX7_excess 5 (some .int) 2 := ⟨kwt3 188 (by rfl) rfl, mv_X7_excess⟩
set_option maxRecDepth 100000 in
theorem cv_X7_301 : CWV "DoorWalk" 301 yX4_pull cX4_pull 6 (some .long) 4 := ⟨kwt3 192 (by rfl) rfl, mv_X4_pull⟩
set_option maxRecDepth 100000 in
theorem mv_X4_off : Cond.instanceMethod yX4_off ∈ TB ∧ Cond.selects "DoorWalk$Rule" yX4_off yX4_off ∈ TB ∧ Cond.initialized "DoorWalk$Rule" ∈ TB ∧ Cond.code yX4_off cX4_off 7 (some .long) ∈ TB ∧ "DoorWalk$Rule" ≠ "java/lang/invoke/MethodHandle" ∧ "DoorWalk$Rule" ≠ "java/lang/invoke/VarHandle" ∧ (parseMethodDescriptor "(LDoorWalk$Grid;II)J").map (fun d => d.parameters.length) = some 3 := ⟨kwt3 194 (by rfl) rfl, kwt3 195 (by rfl) rfl, kwt1 6 (by rfl) rfl, kwt3 196 (by rfl) rfl, by decide, by decide, by decide +kernel⟩
set_option maxRecDepth 100000 in
theorem cv_X7_305 : CWV "DoorWalk" 305 yX4_off cX4_off 7 (some .long) 3 := ⟨kwt3 193 (by rfl) rfl, mv_X4_off⟩
set_option maxRecDepth 100000 in
theorem ms_J9_abs_067f4 : Cond.static yJ9_abs_067f4 ∈ TB ∧ Cond.initialized "java/lang/Math" ∈ TB ∧ Cond.code yJ9_abs_067f4 cJ9_abs_067f4 2 (some .long) ∈ TB ∧ "java/lang/Math" ≠ "java/lang/invoke/MethodHandle" ∧ "java/lang/Math" ≠ "java/lang/invoke/VarHandle" ∧ (parseMethodDescriptor "(J)J").map (fun d => d.parameters.length) = some 1 := ⟨kwt3 198 (by rfl) rfl, kwt1 11 (by rfl) rfl, kwt3 199 (by rfl) rfl, by decide, by decide, by decide +kernel⟩
set_option maxRecDepth 100000 in
theorem cs_X4_77 : CWS "DoorWalk$Rule" 77 yJ9_abs_067f4 cJ9_abs_067f4 2 (some .long) 1 := ⟨kwt3 197 (by rfl) rfl, ms_J9_abs_067f4⟩
set_option maxRecDepth 100000 in
theorem ms_J9_max_f86c9 : Cond.static yJ9_max_f86c9 ∈ TB ∧ Cond.initialized "java/lang/Math" ∈ TB ∧ Cond.code yJ9_max_f86c9 cJ9_max_f86c9 4 (some .long) ∈ TB ∧ "java/lang/Math" ≠ "java/lang/invoke/MethodHandle" ∧ "java/lang/Math" ≠ "java/lang/invoke/VarHandle" ∧ (parseMethodDescriptor "(JJ)J").map (fun d => d.parameters.length) = some 2 := ⟨kwt3 201 (by rfl) rfl, kwt1 11 (by rfl) rfl, kwt3 202 (by rfl) rfl, by decide, by decide, by decide +kernel⟩
set_option maxRecDepth 100000 in
theorem cs_X4_81 : CWS "DoorWalk$Rule" 81 yJ9_max_f86c9 cJ9_max_f86c9 4 (some .long) 2 := ⟨kwt3 200 (by rfl) rfl, ms_J9_max_f86c9⟩
set_option maxRecDepth 100000 in
theorem mv_X7_best : Cond.instanceMethod yX7_best ∈ TB ∧ Cond.selects "DoorWalk" yX7_best yX7_best ∈ TB ∧ Cond.initialized "DoorWalk" ∈ TB ∧ Cond.code yX7_best cX7_best 10 (some .int) ∈ TB ∧ "DoorWalk" ≠ "java/lang/invoke/MethodHandle" ∧ "DoorWalk" ≠ "java/lang/invoke/VarHandle" ∧ (parseMethodDescriptor "()I").map (fun d => d.parameters.length) = some 0 := ⟨kwt3 204 (by rfl) rfl, kwt3 205 (by rfl) rfl, kwt1 1 (by rfl) rfl, kwt3 206 (by rfl) rfl, by decide, by decide, by decide +kernel⟩
set_option maxRecDepth 100000 in
theorem cv_L_140 : CWV "DoorWalkLaw" 140 yX7_best cX7_best 10 (some .int) 0 := ⟨kwt3 203 (by rfl) rfl, mv_X7_best⟩
set_option maxRecDepth 100000 in
theorem mv_X7_clears : Cond.instanceMethod yX7_clears ∈ TB ∧ Cond.selects "DoorWalk" yX7_clears yX7_clears ∈ TB ∧ Cond.initialized "DoorWalk" ∈ TB ∧ Cond.code yX7_clears cX7_clears 10 (some .int) ∈ TB ∧ "DoorWalk" ≠ "java/lang/invoke/MethodHandle" ∧ "DoorWalk" ≠ "java/lang/invoke/VarHandle" ∧ (parseMethodDescriptor "()I").map (fun d => d.parameters.length) = some 0 := ⟨kwt3 208 (by rfl) rfl, kwt3 209 (by rfl) rfl, kwt1 1 (by rfl) rfl, kwt3 210 (by rfl) rfl, by decide, by decide, by decide +kernel⟩
set_option maxRecDepth 100000 in
theorem cv_L_144 : CWV "DoorWalkLaw" 144 yX7_clears cX7_clears 10 (some .int) 0 := ⟨kwt3 207 (by rfl) rfl, mv_X7_clears⟩
set_option maxRecDepth 100000 in
theorem cv_X7_309 : CWV "DoorWalk" 309 yX1_cornerI cX1_cornerI 4 (some .int) 2 := ⟨kwt3 211 (by rfl) rfl, mv_X1_cornerI⟩
set_option maxRecDepth 100000 in
theorem cv_X7_312 : CWV "DoorWalk" 312 yX1_cornerJ cX1_cornerJ 4 (some .int) 2 := ⟨kwt3 212 (by rfl) rfl, mv_X1_cornerJ⟩
set_option maxRecDepth 100000 in
theorem mv_X4_lessOff : Cond.instanceMethod yX4_lessOff ∈ TB ∧ Cond.selects "DoorWalk$Rule" yX4_lessOff yX4_lessOff ∈ TB ∧ Cond.initialized "DoorWalk$Rule" ∈ TB ∧ Cond.code yX4_lessOff cX4_lessOff 7 (some .int) ∈ TB ∧ "DoorWalk$Rule" ≠ "java/lang/invoke/MethodHandle" ∧ "DoorWalk$Rule" ≠ "java/lang/invoke/VarHandle" ∧ (parseMethodDescriptor "(LDoorWalk$Grid;J)I").map (fun d => d.parameters.length) = some 2 := ⟨kwt3 214 (by rfl) rfl, kwt3 215 (by rfl) rfl, kwt1 6 (by rfl) rfl, kwt3 216 (by rfl) rfl, by decide, by decide, by decide +kernel⟩
set_option maxRecDepth 100000 in
theorem cv_X7_315 : CWV "DoorWalk" 315 yX4_lessOff cX4_lessOff 7 (some .int) 2 := ⟨kwt3 213 (by rfl) rfl, mv_X4_lessOff⟩
set_option maxRecDepth 100000 in
theorem cv_X4_88 : CWV "DoorWalk$Rule" 88 yX4_off cX4_off 7 (some .long) 3 := ⟨kwt3 217 (by rfl) rfl, mv_X4_off⟩
set_option maxRecDepth 100000 in
theorem mv_X7_sells : Cond.instanceMethod yX7_sells ∈ TB ∧ Cond.selects "DoorWalk" yX7_sells yX7_sells ∈ TB ∧ Cond.initialized "DoorWalk" ∈ TB ∧ Cond.code yX7_sells cX7_sells 6 (some .int) ∈ TB ∧ "DoorWalk" ≠ "java/lang/invoke/MethodHandle" ∧ "DoorWalk" ≠ "java/lang/invoke/VarHandle" ∧ (parseMethodDescriptor "(III)I").map (fun d => d.parameters.length) = some 3 := ⟨kwt3 219 (by rfl) rfl, kwt3 220 (by rfl) rfl, kwt1 1 (by rfl) rfl, kwt3 221 (by rfl) rfl, by decide, by decide, by decide +kernel⟩
set_option maxRecDepth 100000 in
theorem cv_L_148 : CWV "DoorWalkLaw" 148 yX7_sells cX7_sells 6 (some .int) 3 := ⟨kwt3 218 (by rfl) rfl, mv_X7_sells⟩
set_option maxRecDepth 100000 in
theorem mv_X4_hasEnough : Cond.instanceMethod yX4_hasEnough ∈ TB ∧ Cond.selects "DoorWalk$Rule" yX4_hasEnough yX4_hasEnough ∈ TB ∧ Cond.initialized "DoorWalk$Rule" ∈ TB ∧ Cond.code yX4_hasEnough cX4_hasEnough 8 (some .boolean) ∈ TB ∧ "DoorWalk$Rule" ≠ "java/lang/invoke/MethodHandle" ∧ "DoorWalk$Rule" ≠ "java/lang/invoke/VarHandle" ∧ (parseMethodDescriptor "(LDoorWalk$Grid;IIII)Z").map (fun d => d.parameters.length) = some 5 := ⟨kwt3 223 (by rfl) rfl, kwt3 224 (by rfl) rfl, kwt1 6 (by rfl) rfl, kwt3 225 (by rfl) rfl, by decide, by decide, by decide +kernel⟩
set_option maxRecDepth 100000 in
theorem cv_X7_322 : CWV "DoorWalk" 322 yX4_hasEnough cX4_hasEnough 8 (some .boolean) 5 := ⟨kwt3 222 (by rfl) rfl, mv_X4_hasEnough⟩
set_option maxRecDepth 100000 in
theorem ms_J6_bitCount_0f7a4 : Cond.static yJ6_bitCount_0f7a4 ∈ TB ∧ Cond.initialized "java/lang/Integer" ∈ TB ∧ Cond.code yJ6_bitCount_0f7a4 cJ6_bitCount_0f7a4 1 (some .int) ∈ TB ∧ "java/lang/Integer" ≠ "java/lang/invoke/MethodHandle" ∧ "java/lang/Integer" ≠ "java/lang/invoke/VarHandle" ∧ (parseMethodDescriptor "(I)I").map (fun d => d.parameters.length) = some 1 := ⟨kwt3 227 (by rfl) rfl, kwt1 17 (by rfl) rfl, kwt3 228 (by rfl) rfl, by decide, by decide, by decide +kernel⟩
set_option maxRecDepth 100000 in
theorem cs_X7_326 : CWS "DoorWalk" 326 yJ6_bitCount_0f7a4 cJ6_bitCount_0f7a4 1 (some .int) 1 := ⟨kwt3 226 (by rfl) rfl, ms_J6_bitCount_0f7a4⟩
set_option maxRecDepth 100000 in
theorem mv_X7_were : Cond.instanceMethod yX7_were ∈ TB ∧ Cond.selects "DoorWalk" yX7_were yX7_were ∈ TB ∧ Cond.initialized "DoorWalk" ∈ TB ∧ Cond.code yX7_were cX7_were 7 (some .int) ∈ TB ∧ "DoorWalk" ≠ "java/lang/invoke/MethodHandle" ∧ "DoorWalk" ≠ "java/lang/invoke/VarHandle" ∧ (parseMethodDescriptor "(III)I").map (fun d => d.parameters.length) = some 3 := ⟨kwt3 233 (by rfl) rfl, kwt3 234 (by rfl) rfl, kwt1 1 (by rfl) rfl, kwt3 235 (by rfl) rfl, by decide, by decide, by decide +kernel⟩
set_option maxRecDepth 100000 in
theorem cv_L_152 : CWV "DoorWalkLaw" 152 yX7_were cX7_were 7 (some .int) 3 := ⟨kwt3 232 (by rfl) rfl, mv_X7_were⟩
set_option maxRecDepth 100000 in
theorem mv_X1_turnRound : Cond.instanceMethod yX1_turnRound ∈ TB ∧ Cond.selects "DoorWalk$Grid" yX1_turnRound yX1_turnRound ∈ TB ∧ Cond.initialized "DoorWalk$Grid" ∈ TB ∧ Cond.code yX1_turnRound cX1_turnRound 4 (some .int) ∈ TB ∧ "DoorWalk$Grid" ≠ "java/lang/invoke/MethodHandle" ∧ "DoorWalk$Grid" ≠ "java/lang/invoke/VarHandle" ∧ (parseMethodDescriptor "(III)I").map (fun d => d.parameters.length) = some 3 := ⟨kwt3 237 (by rfl) rfl, kwt3 238 (by rfl) rfl, kwt1 5 (by rfl) rfl, kwt3 239 (by rfl) rfl, by decide, by decide, by decide +kernel⟩
set_option maxRecDepth 100000 in
theorem cv_X7_339 : CWV "DoorWalk" 339 yX1_turnRound cX1_turnRound 4 (some .int) 3 := ⟨kwt3 236 (by rfl) rfl, mv_X1_turnRound⟩
set_option maxRecDepth 100000 in
theorem mv_X7_hangs : Cond.instanceMethod yX7_hangs ∈ TB ∧ Cond.selects "DoorWalk" yX7_hangs yX7_hangs ∈ TB ∧ Cond.initialized "DoorWalk" ∈ TB ∧ Cond.code yX7_hangs cX7_hangs 6 (some .int) ∈ TB ∧ "DoorWalk" ≠ "java/lang/invoke/MethodHandle" ∧ "DoorWalk" ≠ "java/lang/invoke/VarHandle" ∧ (parseMethodDescriptor "(I)I").map (fun d => d.parameters.length) = some 1 := ⟨kwt4 7 (by rfl) rfl, kwt4 8 (by rfl) rfl, kwt1 1 (by rfl) rfl, kwt4 9 (by rfl) rfl, by decide, by decide, by decide +kernel⟩
set_option maxRecDepth 100000 in
theorem cv_L_156 : CWV "DoorWalkLaw" 156 yX7_hangs cX7_hangs 6 (some .int) 1 := ⟨kwt4 6 (by rfl) rfl, mv_X7_hangs⟩
set_option maxRecDepth 100000 in
theorem mv_X7_looseLabel : Cond.instanceMethod yX7_looseLabel ∈ TB ∧ Cond.selects "DoorWalk" yX7_looseLabel yX7_looseLabel ∈ TB ∧ Cond.initialized "DoorWalk" ∈ TB ∧ Cond.code yX7_looseLabel cX7_looseLabel 5 (some .int) ∈ TB ∧ "DoorWalk" ≠ "java/lang/invoke/MethodHandle" ∧ "DoorWalk" ≠ "java/lang/invoke/VarHandle" ∧ (parseMethodDescriptor "(II)I").map (fun d => d.parameters.length) = some 2 := ⟨kwt4 12 (by rfl) rfl, kwp1 6 (by rfl) rfl, kwt1 1 (by rfl) rfl, kwt4 13 (by rfl) rfl, by decide, by decide, by decide +kernel⟩
set_option maxRecDepth 100000 in
theorem cv_X7_342 : CWV "DoorWalk" 342 yX7_looseLabel cX7_looseLabel 5 (some .int) 2 := ⟨kwt4 10 (by rfl) rfl, mv_X7_looseLabel⟩
set_option maxRecDepth 100000 in
theorem mv_X1_gain : Cond.instanceMethod yX1_gain ∈ TB ∧ Cond.selects "DoorWalk$Grid" yX1_gain yX1_gain ∈ TB ∧ Cond.initialized "DoorWalk$Grid" ∈ TB ∧ Cond.code yX1_gain cX1_gain 7 (some .int) ∈ TB ∧ "DoorWalk$Grid" ≠ "java/lang/invoke/MethodHandle" ∧ "DoorWalk$Grid" ≠ "java/lang/invoke/VarHandle" ∧ (parseMethodDescriptor "(III)I").map (fun d => d.parameters.length) = some 3 := ⟨kwt4 15 (by rfl) rfl, kwt4 16 (by rfl) rfl, kwt1 5 (by rfl) rfl, kwt4 17 (by rfl) rfl, by decide, by decide, by decide +kernel⟩
set_option maxRecDepth 100000 in
theorem cv_X7_422 : CWV "DoorWalk" 422 yX1_gain cX1_gain 7 (some .int) 3 := ⟨kwt4 14 (by rfl) rfl, mv_X1_gain⟩
set_option maxRecDepth 100000 in
theorem cv_X1_68 : CWV "DoorWalk$Grid" 68 yX1_labelAt cX1_labelAt 3 (some .int) 2 := ⟨kwt4 18 (by rfl) rfl, mv_X1_labelAt⟩
set_option maxRecDepth 100000 in
theorem mv_X1_fullRound : Cond.instanceMethod yX1_fullRound ∈ TB ∧ Cond.selects "DoorWalk$Grid" yX1_fullRound yX1_fullRound ∈ TB ∧ Cond.initialized "DoorWalk$Grid" ∈ TB ∧ Cond.code yX1_fullRound cX1_fullRound 5 (some .int) ∈ TB ∧ "DoorWalk$Grid" ≠ "java/lang/invoke/MethodHandle" ∧ "DoorWalk$Grid" ≠ "java/lang/invoke/VarHandle" ∧ (parseMethodDescriptor "(II)I").map (fun d => d.parameters.length) = some 2 := ⟨kwt4 20 (by rfl) rfl, kwt4 21 (by rfl) rfl, kwt1 5 (by rfl) rfl, kwt4 22 (by rfl) rfl, by decide, by decide, by decide +kernel⟩
set_option maxRecDepth 100000 in
theorem cv_X1_124 : CWV "DoorWalk$Grid" 124 yX1_fullRound cX1_fullRound 5 (some .int) 2 := ⟨kwt4 19 (by rfl) rfl, mv_X1_fullRound⟩
set_option maxRecDepth 100000 in
theorem cv_X1_127 : CWV "DoorWalk$Grid" 127 yX1_turnRound cX1_turnRound 4 (some .int) 3 := ⟨kwt4 23 (by rfl) rfl, mv_X1_turnRound⟩
set_option maxRecDepth 100000 in
theorem mv_X7_lone : Cond.instanceMethod yX7_lone ∈ TB ∧ Cond.selects "DoorWalk" yX7_lone yX7_lone ∈ TB ∧ Cond.initialized "DoorWalk" ∈ TB ∧ Cond.code yX7_lone cX7_lone 6 (some .int) ∈ TB ∧ "DoorWalk" ≠ "java/lang/invoke/MethodHandle" ∧ "DoorWalk" ≠ "java/lang/invoke/VarHandle" ∧ (parseMethodDescriptor "()I").map (fun d => d.parameters.length) = some 0 := ⟨kwt4 25 (by rfl) rfl, kwt4 26 (by rfl) rfl, kwt1 1 (by rfl) rfl, kwt4 27 (by rfl) rfl, by decide, by decide, by decide +kernel⟩
set_option maxRecDepth 100000 in
theorem cv_L_160 : CWV "DoorWalkLaw" 160 yX7_lone cX7_lone 6 (some .int) 0 := ⟨kwt4 24 (by rfl) rfl, mv_X7_lone⟩
set_option maxRecDepth 100000 in
theorem mv_X1_fullCells : Cond.instanceMethod yX1_fullCells ∈ TB ∧ Cond.selects "DoorWalk$Grid" yX1_fullCells yX1_fullCells ∈ TB ∧ Cond.initialized "DoorWalk$Grid" ∈ TB ∧ Cond.code yX1_fullCells cX1_fullCells 1 (some .int) ∈ TB ∧ "DoorWalk$Grid" ≠ "java/lang/invoke/MethodHandle" ∧ "DoorWalk$Grid" ≠ "java/lang/invoke/VarHandle" ∧ (parseMethodDescriptor "()I").map (fun d => d.parameters.length) = some 0 := ⟨kwt4 29 (by rfl) rfl, kwt4 30 (by rfl) rfl, kwt1 5 (by rfl) rfl, kwt4 31 (by rfl) rfl, by decide, by decide, by decide +kernel⟩
set_option maxRecDepth 100000 in
theorem cv_X7_345 : CWV "DoorWalk" 345 yX1_fullCells cX1_fullCells 1 (some .int) 0 := ⟨kwt4 28 (by rfl) rfl, mv_X1_fullCells⟩
set_option maxRecDepth 100000 in
theorem cv_X1_105 : CWV "DoorWalk$Grid" 105 yX1_survey cX1_survey 3 none 0 := ⟨kwt4 32 (by rfl) rfl, mv_X1_survey⟩
set_option maxRecDepth 100000 in
theorem mv_X7_labelForOne : Cond.instanceMethod yX7_labelForOne ∈ TB ∧ Cond.selects "DoorWalk" yX7_labelForOne yX7_labelForOne ∈ TB ∧ Cond.initialized "DoorWalk" ∈ TB ∧ Cond.code yX7_labelForOne cX7_labelForOne 6 (some .int) ∈ TB ∧ "DoorWalk" ≠ "java/lang/invoke/MethodHandle" ∧ "DoorWalk" ≠ "java/lang/invoke/VarHandle" ∧ (parseMethodDescriptor "(III)I").map (fun d => d.parameters.length) = some 3 := ⟨kwt4 36 (by rfl) rfl, kwp1 7 (by rfl) rfl, kwt1 1 (by rfl) rfl, kwt4 37 (by rfl) rfl, by decide, by decide, by decide +kernel⟩
set_option maxRecDepth 100000 in
theorem cv_X7_350 : CWV "DoorWalk" 350 yX7_labelForOne cX7_labelForOne 6 (some .int) 3 := ⟨kwt4 34 (by rfl) rfl, mv_X7_labelForOne⟩
set_option maxRecDepth 100000 in
theorem mv_X7_lays : Cond.instanceMethod yX7_lays ∈ TB ∧ Cond.selects "DoorWalk" yX7_lays yX7_lays ∈ TB ∧ Cond.initialized "DoorWalk" ∈ TB ∧ Cond.code yX7_lays cX7_lays 4 (some .int) ∈ TB ∧ "DoorWalk" ≠ "java/lang/invoke/MethodHandle" ∧ "DoorWalk" ≠ "java/lang/invoke/VarHandle" ∧ (parseMethodDescriptor "(III)I").map (fun d => d.parameters.length) = some 3 := ⟨kwt4 39 (by rfl) rfl, kwt4 40 (by rfl) rfl, kwt1 1 (by rfl) rfl, kwt4 41 (by rfl) rfl, by decide, by decide, by decide +kernel⟩
set_option maxRecDepth 100000 in
theorem cv_L_164 : CWV "DoorWalkLaw" 164 yX7_lays cX7_lays 4 (some .int) 3 := ⟨kwt4 38 (by rfl) rfl, mv_X7_lays⟩
set_option maxRecDepth 100000 in
theorem mv_X7_layLabel : Cond.instanceMethod yX7_layLabel ∈ TB ∧ Cond.selects "DoorWalk" yX7_layLabel yX7_layLabel ∈ TB ∧ Cond.initialized "DoorWalk" ∈ TB ∧ Cond.code yX7_layLabel cX7_layLabel 5 (some .int) ∈ TB ∧ "DoorWalk" ≠ "java/lang/invoke/MethodHandle" ∧ "DoorWalk" ≠ "java/lang/invoke/VarHandle" ∧ (parseMethodDescriptor "(III)I").map (fun d => d.parameters.length) = some 3 := ⟨kwt4 44 (by rfl) rfl, kwp1 8 (by rfl) rfl, kwt1 1 (by rfl) rfl, kwt4 45 (by rfl) rfl, by decide, by decide, by decide +kernel⟩
set_option maxRecDepth 100000 in
theorem cv_X7_353 : CWV "DoorWalk" 353 yX7_layLabel cX7_layLabel 5 (some .int) 3 := ⟨kwt4 42 (by rfl) rfl, mv_X7_layLabel⟩
set_option maxRecDepth 100000 in
theorem mv_X1_lay : Cond.instanceMethod yX1_lay ∈ TB ∧ Cond.selects "DoorWalk$Grid" yX1_lay yX1_lay ∈ TB ∧ Cond.initialized "DoorWalk$Grid" ∈ TB ∧ Cond.code yX1_lay cX1_lay 5 (some .int) ∈ TB ∧ "DoorWalk$Grid" ≠ "java/lang/invoke/MethodHandle" ∧ "DoorWalk$Grid" ≠ "java/lang/invoke/VarHandle" ∧ (parseMethodDescriptor "(III)I").map (fun d => d.parameters.length) = some 3 := ⟨kwt4 47 (by rfl) rfl, kwt4 48 (by rfl) rfl, kwt1 5 (by rfl) rfl, kwt4 49 (by rfl) rfl, by decide, by decide, by decide +kernel⟩
set_option maxRecDepth 100000 in
theorem cv_X7_396 : CWV "DoorWalk" 396 yX1_lay cX1_lay 5 (some .int) 3 := ⟨kwt4 46 (by rfl) rfl, mv_X1_lay⟩
set_option maxRecDepth 100000 in
theorem cv_X1_64 : CWV "DoorWalk$Grid" 64 yX1_has cX1_has 3 (some .boolean) 2 := ⟨kwt4 50 (by rfl) rfl, mv_X1_has⟩
set_option maxRecDepth 100000 in
theorem cv_X1_71 : CWV "DoorWalk$Grid" 71 yX1_canHave cX1_canHave 4 (some .boolean) 3 := ⟨kwt4 51 (by rfl) rfl, mv_X1_canHave⟩
set_option maxRecDepth 100000 in
theorem mv_X7_held : Cond.instanceMethod yX7_held ∈ TB ∧ Cond.selects "DoorWalk" yX7_held yX7_held ∈ TB ∧ Cond.initialized "DoorWalk" ∈ TB ∧ Cond.code yX7_held cX7_held 2 (some .int) ∈ TB ∧ "DoorWalk" ≠ "java/lang/invoke/MethodHandle" ∧ "DoorWalk" ≠ "java/lang/invoke/VarHandle" ∧ (parseMethodDescriptor "(I)I").map (fun d => d.parameters.length) = some 1 := ⟨kwt4 54 (by rfl) rfl, kwp1 9 (by rfl) rfl, kwt1 1 (by rfl) rfl, kwt4 55 (by rfl) rfl, by decide, by decide, by decide +kernel⟩
set_option maxRecDepth 100000 in
theorem cv_X7_356 : CWV "DoorWalk" 356 yX7_held cX7_held 2 (some .int) 1 := ⟨kwt4 52 (by rfl) rfl, mv_X7_held⟩
set_option maxRecDepth 100000 in
theorem mv_X7_grid : Cond.instanceMethod yX7_grid ∈ TB ∧ Cond.selects "DoorWalk" yX7_grid yX7_grid ∈ TB ∧ Cond.initialized "DoorWalk" ∈ TB ∧ Cond.code yX7_grid cX7_grid 2 (some .int) ∈ TB ∧ "DoorWalk" ≠ "java/lang/invoke/MethodHandle" ∧ "DoorWalk" ≠ "java/lang/invoke/VarHandle" ∧ (parseMethodDescriptor "(I)I").map (fun d => d.parameters.length) = some 1 := ⟨kwt4 57 (by rfl) rfl, kwt4 58 (by rfl) rfl, kwt1 1 (by rfl) rfl, kwt4 59 (by rfl) rfl, by decide, by decide, by decide +kernel⟩
set_option maxRecDepth 100000 in
theorem cv_L_168 : CWV "DoorWalkLaw" 168 yX7_grid cX7_grid 2 (some .int) 1 := ⟨kwt4 56 (by rfl) rfl, mv_X7_grid⟩
set_option maxRecDepth 100000 in
theorem mv_X7_changeGrid : Cond.instanceMethod yX7_changeGrid ∈ TB ∧ Cond.selects "DoorWalk" yX7_changeGrid yX7_changeGrid ∈ TB ∧ Cond.initialized "DoorWalk" ∈ TB ∧ Cond.code yX7_changeGrid cX7_changeGrid 2 (some .int) ∈ TB ∧ "DoorWalk" ≠ "java/lang/invoke/MethodHandle" ∧ "DoorWalk" ≠ "java/lang/invoke/VarHandle" ∧ (parseMethodDescriptor "(I)I").map (fun d => d.parameters.length) = some 1 := ⟨kwt4 62 (by rfl) rfl, kwp1 10 (by rfl) rfl, kwt1 1 (by rfl) rfl, kwt4 63 (by rfl) rfl, by decide, by decide, by decide +kernel⟩
set_option maxRecDepth 100000 in
theorem cv_X7_359 : CWV "DoorWalk" 359 yX7_changeGrid cX7_changeGrid 2 (some .int) 1 := ⟨kwt4 60 (by rfl) rfl, mv_X7_changeGrid⟩
set_option maxRecDepth 100000 in
theorem mv_X7_swaps : Cond.instanceMethod yX7_swaps ∈ TB ∧ Cond.selects "DoorWalk" yX7_swaps yX7_swaps ∈ TB ∧ Cond.initialized "DoorWalk" ∈ TB ∧ Cond.code yX7_swaps cX7_swaps 5 (some .int) ∈ TB ∧ "DoorWalk" ≠ "java/lang/invoke/MethodHandle" ∧ "DoorWalk" ≠ "java/lang/invoke/VarHandle" ∧ (parseMethodDescriptor "(IIII)I").map (fun d => d.parameters.length) = some 4 := ⟨kwt4 65 (by rfl) rfl, kwt4 66 (by rfl) rfl, kwt1 1 (by rfl) rfl, kwt4 67 (by rfl) rfl, by decide, by decide, by decide +kernel⟩
set_option maxRecDepth 100000 in
theorem cv_L_172 : CWV "DoorWalkLaw" 172 yX7_swaps cX7_swaps 5 (some .int) 4 := ⟨kwt4 64 (by rfl) rfl, mv_X7_swaps⟩
set_option maxRecDepth 100000 in
theorem mv_X7_swapLabels : Cond.instanceMethod yX7_swapLabels ∈ TB ∧ Cond.selects "DoorWalk" yX7_swapLabels yX7_swapLabels ∈ TB ∧ Cond.initialized "DoorWalk" ∈ TB ∧ Cond.code yX7_swapLabels cX7_swapLabels 8 (some .int) ∈ TB ∧ "DoorWalk" ≠ "java/lang/invoke/MethodHandle" ∧ "DoorWalk" ≠ "java/lang/invoke/VarHandle" ∧ (parseMethodDescriptor "(IIII)I").map (fun d => d.parameters.length) = some 4 := ⟨kwt4 70 (by rfl) rfl, kwp1 11 (by rfl) rfl, kwt1 1 (by rfl) rfl, kwt4 71 (by rfl) rfl, by decide, by decide, by decide +kernel⟩
set_option maxRecDepth 100000 in
theorem cv_X7_362 : CWV "DoorWalk" 362 yX7_swapLabels cX7_swapLabels 8 (some .int) 4 := ⟨kwt4 68 (by rfl) rfl, mv_X7_swapLabels⟩
set_option maxRecDepth 100000 in
theorem mv_X7_amounts : Cond.instanceMethod yX7_amounts ∈ TB ∧ Cond.selects "DoorWalk" yX7_amounts yX7_amounts ∈ TB ∧ Cond.initialized "DoorWalk" ∈ TB ∧ Cond.code yX7_amounts cX7_amounts 4 (some .int) ∈ TB ∧ "DoorWalk" ≠ "java/lang/invoke/MethodHandle" ∧ "DoorWalk" ≠ "java/lang/invoke/VarHandle" ∧ (parseMethodDescriptor "(III)I").map (fun d => d.parameters.length) = some 3 := ⟨kwt4 73 (by rfl) rfl, kwt4 74 (by rfl) rfl, kwt1 1 (by rfl) rfl, kwt4 75 (by rfl) rfl, by decide, by decide, by decide +kernel⟩
set_option maxRecDepth 100000 in
theorem cv_L_177 : CWV "DoorWalkLaw" 177 yX7_amounts cX7_amounts 4 (some .int) 3 := ⟨kwt4 72 (by rfl) rfl, mv_X7_amounts⟩
set_option maxRecDepth 100000 in
theorem mv_X7_changeAmount : Cond.instanceMethod yX7_changeAmount ∈ TB ∧ Cond.selects "DoorWalk" yX7_changeAmount yX7_changeAmount ∈ TB ∧ Cond.initialized "DoorWalk" ∈ TB ∧ Cond.code yX7_changeAmount cX7_changeAmount 6 (some .int) ∈ TB ∧ "DoorWalk" ≠ "java/lang/invoke/MethodHandle" ∧ "DoorWalk" ≠ "java/lang/invoke/VarHandle" ∧ (parseMethodDescriptor "(III)I").map (fun d => d.parameters.length) = some 3 := ⟨kwt4 78 (by rfl) rfl, kwp1 12 (by rfl) rfl, kwt1 1 (by rfl) rfl, kwt4 79 (by rfl) rfl, by decide, by decide, by decide +kernel⟩
set_option maxRecDepth 100000 in
theorem cv_X7_365 : CWV "DoorWalk" 365 yX7_changeAmount cX7_changeAmount 6 (some .int) 3 := ⟨kwt4 76 (by rfl) rfl, mv_X7_changeAmount⟩
set_option maxRecDepth 100000 in
theorem cv_X7_412 : CWV "DoorWalk" 412 yX4_amount cX4_amount 4 (some .int) 2 := ⟨kwt4 80 (by rfl) rfl, mv_X4_amount⟩
set_option maxRecDepth 100000 in
theorem mv_X4_setAmount : Cond.instanceMethod yX4_setAmount ∈ TB ∧ Cond.selects "DoorWalk$Rule" yX4_setAmount yX4_setAmount ∈ TB ∧ Cond.initialized "DoorWalk$Rule" ∈ TB ∧ Cond.code yX4_setAmount cX4_setAmount 5 none ∈ TB ∧ "DoorWalk$Rule" ≠ "java/lang/invoke/MethodHandle" ∧ "DoorWalk$Rule" ≠ "java/lang/invoke/VarHandle" ∧ (parseMethodDescriptor "(III)V").map (fun d => d.parameters.length) = some 3 := ⟨kwt4 82 (by rfl) rfl, kwt4 83 (by rfl) rfl, kwt1 6 (by rfl) rfl, kwt4 84 (by rfl) rfl, by decide, by decide, by decide +kernel⟩
set_option maxRecDepth 100000 in
theorem cv_X7_415 : CWV "DoorWalk" 415 yX4_setAmount cX4_setAmount 5 none 3 := ⟨kwt4 81 (by rfl) rfl, mv_X4_setAmount⟩
set_option maxRecDepth 100000 in
theorem cv_X7_418 : CWV "DoorWalk" 418 yX4_setPulls cX4_setPulls 8 none 0 := ⟨kwt4 85 (by rfl) rfl, mv_X4_setPulls⟩
set_option maxRecDepth 100000 in
theorem mv_X7_day : Cond.instanceMethod yX7_day ∈ TB ∧ Cond.selects "DoorWalk" yX7_day yX7_day ∈ TB ∧ Cond.initialized "DoorWalk" ∈ TB ∧ Cond.code yX7_day cX7_day 5 (some .int) ∈ TB ∧ "DoorWalk" ≠ "java/lang/invoke/MethodHandle" ∧ "DoorWalk" ≠ "java/lang/invoke/VarHandle" ∧ (parseMethodDescriptor "()I").map (fun d => d.parameters.length) = some 0 := ⟨kwt4 87 (by rfl) rfl, kwt4 88 (by rfl) rfl, kwt1 1 (by rfl) rfl, kwt4 89 (by rfl) rfl, by decide, by decide, by decide +kernel⟩
set_option maxRecDepth 100000 in
theorem cv_L_181 : CWV "DoorWalkLaw" 181 yX7_day cX7_day 5 (some .int) 0 := ⟨kwt4 86 (by rfl) rfl, mv_X7_day⟩
set_option maxRecDepth 100000 in
theorem mv_X7_wrongInDay : Cond.instanceMethod yX7_wrongInDay ∈ TB ∧ Cond.selects "DoorWalk" yX7_wrongInDay yX7_wrongInDay ∈ TB ∧ Cond.initialized "DoorWalk" ∈ TB ∧ Cond.code yX7_wrongInDay cX7_wrongInDay 4 (some .int) ∈ TB ∧ "DoorWalk" ≠ "java/lang/invoke/MethodHandle" ∧ "DoorWalk" ≠ "java/lang/invoke/VarHandle" ∧ (parseMethodDescriptor "()I").map (fun d => d.parameters.length) = some 0 := ⟨kwt4 92 (by rfl) rfl, kwp1 13 (by rfl) rfl, kwt1 1 (by rfl) rfl, kwt4 93 (by rfl) rfl, by decide, by decide, by decide +kernel⟩
set_option maxRecDepth 100000 in
theorem cv_X7_368 : CWV "DoorWalk" 368 yX7_wrongInDay cX7_wrongInDay 4 (some .int) 0 := ⟨kwt4 90 (by rfl) rfl, mv_X7_wrongInDay⟩
set_option maxRecDepth 100000 in
theorem ms_X7_digitsOfAct : Cond.static yX7_digitsOfAct ∈ TB ∧ Cond.initialized "DoorWalk" ∈ TB ∧ Cond.code yX7_digitsOfAct cX7_digitsOfAct 1 (some .int) ∈ TB ∧ "DoorWalk" ≠ "java/lang/invoke/MethodHandle" ∧ "DoorWalk" ≠ "java/lang/invoke/VarHandle" ∧ (parseMethodDescriptor "(I)I").map (fun d => d.parameters.length) = some 1 := ⟨kwt4 95 (by rfl) rfl, kwt1 1 (by rfl) rfl, kwt4 96 (by rfl) rfl, by decide, by decide, by decide +kernel⟩
set_option maxRecDepth 100000 in
theorem cs_X7_376 : CWS "DoorWalk" 376 yX7_digitsOfAct cX7_digitsOfAct 1 (some .int) 1 := ⟨kwt4 94 (by rfl) rfl, ms_X7_digitsOfAct⟩
set_option maxRecDepth 100000 in
theorem mv_X7_doAct : Cond.instanceMethod yX7_doAct ∈ TB ∧ Cond.selects "DoorWalk" yX7_doAct yX7_doAct ∈ TB ∧ Cond.initialized "DoorWalk" ∈ TB ∧ Cond.code yX7_doAct cX7_doAct 2 (some .int) ∈ TB ∧ "DoorWalk" ≠ "java/lang/invoke/MethodHandle" ∧ "DoorWalk" ≠ "java/lang/invoke/VarHandle" ∧ (parseMethodDescriptor "(I)I").map (fun d => d.parameters.length) = some 1 := ⟨kwt4 99 (by rfl) rfl, kwp1 14 (by rfl) rfl, kwt1 1 (by rfl) rfl, kwt4 100 (by rfl) rfl, by decide, by decide, by decide +kernel⟩
set_option maxRecDepth 100000 in
theorem cv_X7_371 : CWV "DoorWalk" 371 yX7_doAct cX7_doAct 2 (some .int) 1 := ⟨kwt4 97 (by rfl) rfl, mv_X7_doAct⟩
set_option maxRecDepth 100000 in
theorem mv_X7_undo : Cond.instanceMethod yX7_undo ∈ TB ∧ Cond.selects "DoorWalk" yX7_undo yX7_undo ∈ TB ∧ Cond.initialized "DoorWalk" ∈ TB ∧ Cond.code yX7_undo cX7_undo 1 (some .int) ∈ TB ∧ "DoorWalk" ≠ "java/lang/invoke/MethodHandle" ∧ "DoorWalk" ≠ "java/lang/invoke/VarHandle" ∧ (parseMethodDescriptor "()I").map (fun d => d.parameters.length) = some 0 := ⟨kwt4 102 (by rfl) rfl, kwt4 103 (by rfl) rfl, kwt1 1 (by rfl) rfl, kwt4 104 (by rfl) rfl, by decide, by decide, by decide +kernel⟩
set_option maxRecDepth 100000 in
theorem cv_L_185 : CWV "DoorWalkLaw" 185 yX7_undo cX7_undo 1 (some .int) 0 := ⟨kwt4 101 (by rfl) rfl, mv_X7_undo⟩
set_option maxRecDepth 100000 in
theorem mv_X2_back : Cond.instanceMethod yX2_back ∈ TB ∧ Cond.selects "DoorWalk$History" yX2_back yX2_back ∈ TB ∧ Cond.initialized "DoorWalk$History" ∈ TB ∧ Cond.code yX2_back cX2_back 2 (some .boolean) ∈ TB ∧ "DoorWalk$History" ≠ "java/lang/invoke/MethodHandle" ∧ "DoorWalk$History" ≠ "java/lang/invoke/VarHandle" ∧ (parseMethodDescriptor "(LDoorWalk$State;)Z").map (fun d => d.parameters.length) = some 1 := ⟨kwt4 106 (by rfl) rfl, kwt4 107 (by rfl) rfl, kwt1 8 (by rfl) rfl, kwt4 108 (by rfl) rfl, by decide, by decide, by decide +kernel⟩
set_option maxRecDepth 100000 in
theorem cv_X7_379 : CWV "DoorWalk" 379 yX2_back cX2_back 2 (some .boolean) 1 := ⟨kwt4 105 (by rfl) rfl, mv_X2_back⟩
set_option maxRecDepth 100000 in
theorem mv_X7_years : Cond.instanceMethod yX7_years ∈ TB ∧ Cond.selects "DoorWalk" yX7_years yX7_years ∈ TB ∧ Cond.initialized "DoorWalk" ∈ TB ∧ Cond.code yX7_years cX7_years 6 (some .int) ∈ TB ∧ "DoorWalk" ≠ "java/lang/invoke/MethodHandle" ∧ "DoorWalk" ≠ "java/lang/invoke/VarHandle" ∧ (parseMethodDescriptor "(II)I").map (fun d => d.parameters.length) = some 2 := ⟨kwt4 110 (by rfl) rfl, kwt4 111 (by rfl) rfl, kwt1 1 (by rfl) rfl, kwt4 112 (by rfl) rfl, by decide, by decide, by decide +kernel⟩
set_option maxRecDepth 100000 in
theorem cv_L_189 : CWV "DoorWalkLaw" 189 yX7_years cX7_years 6 (some .int) 2 := ⟨kwt4 109 (by rfl) rfl, mv_X7_years⟩
set_option maxRecDepth 100000 in
theorem ms_X7_nextDraw : Cond.static yX7_nextDraw ∈ TB ∧ Cond.initialized "DoorWalk" ∈ TB ∧ Cond.code yX7_nextDraw cX7_nextDraw 1 (some .int) ∈ TB ∧ "DoorWalk" ≠ "java/lang/invoke/MethodHandle" ∧ "DoorWalk" ≠ "java/lang/invoke/VarHandle" ∧ (parseMethodDescriptor "(I)I").map (fun d => d.parameters.length) = some 1 := ⟨kwt4 114 (by rfl) rfl, kwt1 1 (by rfl) rfl, kwt4 115 (by rfl) rfl, by decide, by decide, by decide +kernel⟩
set_option maxRecDepth 100000 in
theorem cs_X7_384 : CWS "DoorWalk" 384 yX7_nextDraw cX7_nextDraw 1 (some .int) 1 := ⟨kwt4 113 (by rfl) rfl, ms_X7_nextDraw⟩
set_option maxRecDepth 100000 in
theorem ms_X7_drawn : Cond.static yX7_drawn ∈ TB ∧ Cond.initialized "DoorWalk" ∈ TB ∧ Cond.code yX7_drawn cX7_drawn 2 (some .int) ∈ TB ∧ "DoorWalk" ≠ "java/lang/invoke/MethodHandle" ∧ "DoorWalk" ≠ "java/lang/invoke/VarHandle" ∧ (parseMethodDescriptor "(II)I").map (fun d => d.parameters.length) = some 2 := ⟨kwt4 118 (by rfl) rfl, kwt1 1 (by rfl) rfl, kwt4 119 (by rfl) rfl, by decide, by decide, by decide +kernel⟩
set_option maxRecDepth 100000 in
theorem cs_X7_387 : CWS "DoorWalk" 387 yX7_drawn cX7_drawn 2 (some .int) 2 := ⟨kwt4 117 (by rfl) rfl, ms_X7_drawn⟩
set_option maxRecDepth 100000 in
theorem mv_X0_outers : Cond.instanceMethod yX0_outers ∈ TB ∧ Cond.selects "DoorWalk$Doors" yX0_outers yX0_outers ∈ TB ∧ Cond.initialized "DoorWalk$Doors" ∈ TB ∧ Cond.code yX0_outers cX0_outers 3 (some .int) ∈ TB ∧ "DoorWalk$Doors" ≠ "java/lang/invoke/MethodHandle" ∧ "DoorWalk$Doors" ≠ "java/lang/invoke/VarHandle" ∧ (parseMethodDescriptor "(LDoorWalk$Grid;I)I").map (fun d => d.parameters.length) = some 2 := ⟨kwt4 121 (by rfl) rfl, kwt4 122 (by rfl) rfl, kwt1 7 (by rfl) rfl, kwt4 123 (by rfl) rfl, by decide, by decide, by decide +kernel⟩
set_option maxRecDepth 100000 in
theorem cv_X7_399 : CWV "DoorWalk" 399 yX0_outers cX0_outers 3 (some .int) 2 := ⟨kwt4 120 (by rfl) rfl, mv_X0_outers⟩
set_option maxRecDepth 100000 in
theorem mv_X7_keep : Cond.instanceMethod yX7_keep ∈ TB ∧ Cond.selects "DoorWalk" yX7_keep yX7_keep ∈ TB ∧ Cond.initialized "DoorWalk" ∈ TB ∧ Cond.code yX7_keep cX7_keep 2 (some .boolean) ∈ TB ∧ "DoorWalk" ≠ "java/lang/invoke/MethodHandle" ∧ "DoorWalk" ≠ "java/lang/invoke/VarHandle" ∧ (parseMethodDescriptor "(I)Z").map (fun d => d.parameters.length) = some 1 := ⟨kwt4 125 (by rfl) rfl, kwt4 126 (by rfl) rfl, kwt1 1 (by rfl) rfl, kwt4 127 (by rfl) rfl, by decide, by decide, by decide +kernel⟩
set_option maxRecDepth 100000 in
theorem cv_L_193 : CWV "DoorWalkLaw" 193 yX7_keep cX7_keep 2 (some .boolean) 1 := ⟨kwt4 124 (by rfl) rfl, mv_X7_keep⟩
set_option maxRecDepth 100000 in
theorem cv_X7_402 : CWV "DoorWalk" 402 yX5_copy cX5_copy 2 none 1 := ⟨kwt4 128 (by rfl) rfl, mv_X5_copy⟩
set_option maxRecDepth 100000 in
theorem mv_X7_again : Cond.instanceMethod yX7_again ∈ TB ∧ Cond.selects "DoorWalk" yX7_again yX7_again ∈ TB ∧ Cond.initialized "DoorWalk" ∈ TB ∧ Cond.code yX7_again cX7_again 2 (some .boolean) ∈ TB ∧ "DoorWalk" ≠ "java/lang/invoke/MethodHandle" ∧ "DoorWalk" ≠ "java/lang/invoke/VarHandle" ∧ (parseMethodDescriptor "(I)Z").map (fun d => d.parameters.length) = some 1 := ⟨kwt4 130 (by rfl) rfl, kwt4 131 (by rfl) rfl, kwt1 1 (by rfl) rfl, kwt4 132 (by rfl) rfl, by decide, by decide, by decide +kernel⟩
set_option maxRecDepth 100000 in
theorem cv_L_197 : CWV "DoorWalkLaw" 197 yX7_again cX7_again 2 (some .boolean) 1 := ⟨kwt4 129 (by rfl) rfl, mv_X7_again⟩
set_option maxRecDepth 100000 in
theorem mv_X7_count : Cond.instanceMethod yX7_count ∈ TB ∧ Cond.selects "DoorWalk" yX7_count yX7_count ∈ TB ∧ Cond.initialized "DoorWalk" ∈ TB ∧ Cond.code yX7_count cX7_count 2 (some .int) ∈ TB ∧ "DoorWalk" ≠ "java/lang/invoke/MethodHandle" ∧ "DoorWalk" ≠ "java/lang/invoke/VarHandle" ∧ (parseMethodDescriptor "(I)I").map (fun d => d.parameters.length) = some 1 := ⟨kwt4 134 (by rfl) rfl, kwt4 135 (by rfl) rfl, kwt1 1 (by rfl) rfl, kwt4 136 (by rfl) rfl, by decide, by decide, by decide +kernel⟩
set_option maxRecDepth 100000 in
theorem cv_L_201 : CWV "DoorWalkLaw" 201 yX7_count cX7_count 2 (some .int) 1 := ⟨kwt4 133 (by rfl) rfl, mv_X7_count⟩
set_option maxRecDepth 100000 in
theorem mv_X7_label : Cond.instanceMethod yX7_label ∈ TB ∧ Cond.selects "DoorWalk" yX7_label yX7_label ∈ TB ∧ Cond.initialized "DoorWalk" ∈ TB ∧ Cond.code yX7_label cX7_label 3 (some .int) ∈ TB ∧ "DoorWalk" ≠ "java/lang/invoke/MethodHandle" ∧ "DoorWalk" ≠ "java/lang/invoke/VarHandle" ∧ (parseMethodDescriptor "(II)I").map (fun d => d.parameters.length) = some 2 := ⟨kwt4 142 (by rfl) rfl, kwt4 143 (by rfl) rfl, kwt1 1 (by rfl) rfl, kwt4 144 (by rfl) rfl, by decide, by decide, by decide +kernel⟩
set_option maxRecDepth 100000 in
theorem cv_L_7 : CWV "DoorWalkLaw" 7 yX7_label cX7_label 3 (some .int) 2 := ⟨kwt4 141 (by rfl) rfl, mv_X7_label⟩
set_option maxRecDepth 100000 in
theorem mv_X7_step : Cond.instanceMethod yX7_step ∈ TB ∧ Cond.selects "DoorWalk" yX7_step yX7_step ∈ TB ∧ Cond.initialized "DoorWalk" ∈ TB ∧ Cond.code yX7_step cX7_step 5 (some .int) ∈ TB ∧ "DoorWalk" ≠ "java/lang/invoke/MethodHandle" ∧ "DoorWalk" ≠ "java/lang/invoke/VarHandle" ∧ (parseMethodDescriptor "(III)I").map (fun d => d.parameters.length) = some 3 := ⟨kwt4 215 (by rfl) rfl, kwt4 216 (by rfl) rfl, kwt1 1 (by rfl) rfl, kwt4 217 (by rfl) rfl, by decide, by decide, by decide +kernel⟩
set_option maxRecDepth 100000 in
theorem cv_L_15 : CWV "DoorWalkLaw" 15 yX7_step cX7_step 5 (some .int) 3 := ⟨kwt4 214 (by rfl) rfl, mv_X7_step⟩
set_option maxRecDepth 100000 in
theorem cv_X7_241 : CWV "DoorWalk" 241 yX0_cellOfWay cX0_cellOfWay 2 (some .int) 1 := ⟨kwt4 220 (by rfl) rfl, mv_X0_cellOfWay⟩
set_option maxRecDepth 100000 in
theorem mv_X7_row : Cond.instanceMethod yX7_row ∈ TB ∧ Cond.selects "DoorWalk" yX7_row yX7_row ∈ TB ∧ Cond.initialized "DoorWalk" ∈ TB ∧ Cond.code yX7_row cX7_row 2 (some .long) ∈ TB ∧ "DoorWalk" ≠ "java/lang/invoke/MethodHandle" ∧ "DoorWalk" ≠ "java/lang/invoke/VarHandle" ∧ (parseMethodDescriptor "(I)J").map (fun d => d.parameters.length) = some 1 := ⟨kwt4 225 (by rfl) rfl, kwt4 226 (by rfl) rfl, kwt1 1 (by rfl) rfl, kwt4 227 (by rfl) rfl, by decide, by decide, by decide +kernel⟩
set_option maxRecDepth 100000 in
theorem cv_L_19 : CWV "DoorWalkLaw" 19 yX7_row cX7_row 2 (some .long) 1 := ⟨kwt4 224 (by rfl) rfl, mv_X7_row⟩
set_option maxRecDepth 100000 in
theorem mv_X8_layFirst : Cond.instanceMethod yX8_layFirst ∈ TB ∧ Cond.selects "DoorWalkModel" yX8_layFirst yX8_layFirst ∈ TB ∧ Cond.initialized "DoorWalkModel" ∈ TB ∧ Cond.code yX8_layFirst cX8_layFirst 3 none ∈ TB ∧ "DoorWalkModel" ≠ "java/lang/invoke/MethodHandle" ∧ "DoorWalkModel" ≠ "java/lang/invoke/VarHandle" ∧ (parseMethodDescriptor "()V").map (fun d => d.parameters.length) = some 0 := ⟨kwt4 237 (by rfl) rfl, kwp2 0 (by rfl) rfl, kwt1 9 (by rfl) rfl, kwt4 238 (by rfl) rfl, by decide, by decide, by decide +kernel⟩
set_option maxRecDepth 100000 in
theorem cv_X8_58 : CWV "DoorWalkModel" 58 yX8_layFirst cX8_layFirst 3 none 0 := ⟨kwt4 235 (by rfl) rfl, mv_X8_layFirst⟩
set_option maxRecDepth 100000 in
theorem mv_X8_n : Cond.instanceMethod yX8_n ∈ TB ∧ Cond.selects "DoorWalkModel" yX8_n yX8_n ∈ TB ∧ Cond.initialized "DoorWalkModel" ∈ TB ∧ Cond.code yX8_n cX8_n 1 (some .int) ∈ TB ∧ "DoorWalkModel" ≠ "java/lang/invoke/MethodHandle" ∧ "DoorWalkModel" ≠ "java/lang/invoke/VarHandle" ∧ (parseMethodDescriptor "()I").map (fun d => d.parameters.length) = some 0 := ⟨kwt5 1 (by rfl) rfl, kwp2 1 (by rfl) rfl, kwt1 9 (by rfl) rfl, kwt5 2 (by rfl) rfl, by decide, by decide, by decide +kernel⟩
set_option maxRecDepth 100000 in
theorem cv_X8_68 : CWV "DoorWalkModel" 68 yX8_n cX8_n 1 (some .int) 0 := ⟨kwt4 239 (by rfl) rfl, mv_X8_n⟩
set_option maxRecDepth 100000 in
theorem mv_X8_place : Cond.instanceMethod yX8_place ∈ TB ∧ Cond.selects "DoorWalkModel" yX8_place yX8_place ∈ TB ∧ Cond.initialized "DoorWalkModel" ∈ TB ∧ Cond.code yX8_place cX8_place 3 (some .int) ∈ TB ∧ "DoorWalkModel" ≠ "java/lang/invoke/MethodHandle" ∧ "DoorWalkModel" ≠ "java/lang/invoke/VarHandle" ∧ (parseMethodDescriptor "(II)I").map (fun d => d.parameters.length) = some 2 := ⟨kwt5 5 (by rfl) rfl, kwp2 2 (by rfl) rfl, kwt1 9 (by rfl) rfl, kwt5 6 (by rfl) rfl, by decide, by decide, by decide +kernel⟩
set_option maxRecDepth 100000 in
theorem cv_X8_80 : CWV "DoorWalkModel" 80 yX8_place cX8_place 3 (some .int) 2 := ⟨kwt5 3 (by rfl) rfl, mv_X8_place⟩
set_option maxRecDepth 100000 in
theorem mv_X8_thrown : Cond.instanceMethod yX8_thrown ∈ TB ∧ Cond.selects "DoorWalkModel" yX8_thrown yX8_thrown ∈ TB ∧ Cond.initialized "DoorWalkModel" ∈ TB ∧ Cond.code yX8_thrown cX8_thrown 1 (some .int) ∈ TB ∧ "DoorWalkModel" ≠ "java/lang/invoke/MethodHandle" ∧ "DoorWalkModel" ≠ "java/lang/invoke/VarHandle" ∧ (parseMethodDescriptor "()I").map (fun d => d.parameters.length) = some 0 := ⟨kwt5 88 (by rfl) rfl, kwt5 89 (by rfl) rfl, kwt1 9 (by rfl) rfl, kwt5 90 (by rfl) rfl, by decide, by decide, by decide +kernel⟩
set_option maxRecDepth 100000 in
theorem cv_L_61 : CWV "DoorWalkLaw" 61 yX8_thrown cX8_thrown 1 (some .int) 0 := ⟨kwt5 87 (by rfl) rfl, mv_X8_thrown⟩
set_option maxRecDepth 100000 in
theorem mv_X8_sign : Cond.instanceMethod yX8_sign ∈ TB ∧ Cond.selects "DoorWalkModel" yX8_sign yX8_sign ∈ TB ∧ Cond.initialized "DoorWalkModel" ∈ TB ∧ Cond.code yX8_sign cX8_sign 3 (some .int) ∈ TB ∧ "DoorWalkModel" ≠ "java/lang/invoke/MethodHandle" ∧ "DoorWalkModel" ≠ "java/lang/invoke/VarHandle" ∧ (parseMethodDescriptor "(I)I").map (fun d => d.parameters.length) = some 1 := ⟨kwt5 92 (by rfl) rfl, kwt5 93 (by rfl) rfl, kwt1 9 (by rfl) rfl, kwt5 94 (by rfl) rfl, by decide, by decide, by decide +kernel⟩
set_option maxRecDepth 100000 in
theorem cv_L_31 : CWV "DoorWalkLaw" 31 yX8_sign cX8_sign 3 (some .int) 1 := ⟨kwt5 91 (by rfl) rfl, mv_X8_sign⟩
set_option maxRecDepth 100000 in
theorem mv_X8_end : Cond.instanceMethod yX8_end ∈ TB ∧ Cond.selects "DoorWalkModel" yX8_end yX8_end ∈ TB ∧ Cond.initialized "DoorWalkModel" ∈ TB ∧ Cond.code yX8_end cX8_end 2 (some .boolean) ∈ TB ∧ "DoorWalkModel" ≠ "java/lang/invoke/MethodHandle" ∧ "DoorWalkModel" ≠ "java/lang/invoke/VarHandle" ∧ (parseMethodDescriptor "(I)Z").map (fun d => d.parameters.length) = some 1 := ⟨kwt5 96 (by rfl) rfl, kwt5 97 (by rfl) rfl, kwt1 9 (by rfl) rfl, kwt5 98 (by rfl) rfl, by decide, by decide, by decide +kernel⟩
set_option maxRecDepth 100000 in
theorem cv_L_36 : CWV "DoorWalkLaw" 36 yX8_end cX8_end 2 (some .boolean) 1 := ⟨kwt5 95 (by rfl) rfl, mv_X8_end⟩
set_option maxRecDepth 100000 in
theorem ms_X8_in : Cond.static yX8_in ∈ TB ∧ Cond.initialized "DoorWalkModel" ∈ TB ∧ Cond.code yX8_in cX8_in 3 (some .boolean) ∈ TB ∧ "DoorWalkModel" ≠ "java/lang/invoke/MethodHandle" ∧ "DoorWalkModel" ≠ "java/lang/invoke/VarHandle" ∧ (parseMethodDescriptor "(III)Z").map (fun d => d.parameters.length) = some 3 := ⟨kwt5 100 (by rfl) rfl, kwt1 9 (by rfl) rfl, kwt5 101 (by rfl) rfl, by decide, by decide, by decide +kernel⟩
set_option maxRecDepth 100000 in
theorem cs_X8_72 : CWS "DoorWalkModel" 72 yX8_in cX8_in 3 (some .boolean) 3 := ⟨kwt5 99 (by rfl) rfl, ms_X8_in⟩
set_option maxRecDepth 100000 in
theorem mv_X8_labels : Cond.instanceMethod yX8_labels ∈ TB ∧ Cond.selects "DoorWalkModel" yX8_labels yX8_labels ∈ TB ∧ Cond.initialized "DoorWalkModel" ∈ TB ∧ Cond.code yX8_labels cX8_labels 7 (some .int) ∈ TB ∧ "DoorWalkModel" ≠ "java/lang/invoke/MethodHandle" ∧ "DoorWalkModel" ≠ "java/lang/invoke/VarHandle" ∧ (parseMethodDescriptor "()I").map (fun d => d.parameters.length) = some 0 := ⟨kwt5 103 (by rfl) rfl, kwt5 104 (by rfl) rfl, kwt1 9 (by rfl) rfl, kwt5 105 (by rfl) rfl, by decide, by decide, by decide +kernel⟩
set_option maxRecDepth 100000 in
theorem cv_L_41 : CWV "DoorWalkLaw" 41 yX8_labels cX8_labels 7 (some .int) 0 := ⟨kwt5 102 (by rfl) rfl, mv_X8_labels⟩
set_option maxRecDepth 100000 in
theorem mv_X8_begin : Cond.instanceMethod yX8_begin ∈ TB ∧ Cond.selects "DoorWalkModel" yX8_begin yX8_begin ∈ TB ∧ Cond.initialized "DoorWalkModel" ∈ TB ∧ Cond.code yX8_begin cX8_begin 1 none ∈ TB ∧ "DoorWalkModel" ≠ "java/lang/invoke/MethodHandle" ∧ "DoorWalkModel" ≠ "java/lang/invoke/VarHandle" ∧ (parseMethodDescriptor "()V").map (fun d => d.parameters.length) = some 0 := ⟨kwt5 108 (by rfl) rfl, kwp2 3 (by rfl) rfl, kwt1 9 (by rfl) rfl, kwt5 109 (by rfl) rfl, by decide, by decide, by decide +kernel⟩
set_option maxRecDepth 100000 in
theorem cv_X8_153 : CWV "DoorWalkModel" 153 yX8_begin cX8_begin 1 none 0 := ⟨kwt5 106 (by rfl) rfl, mv_X8_begin⟩
set_option maxRecDepth 100000 in
theorem mv_X8_digits : Cond.instanceMethod yX8_digits ∈ TB ∧ Cond.selects "DoorWalkModel" yX8_digits yX8_digits ∈ TB ∧ Cond.initialized "DoorWalkModel" ∈ TB ∧ Cond.code yX8_digits cX8_digits 4 (some .int) ∈ TB ∧ "DoorWalkModel" ≠ "java/lang/invoke/MethodHandle" ∧ "DoorWalkModel" ≠ "java/lang/invoke/VarHandle" ∧ (parseMethodDescriptor "(I)I").map (fun d => d.parameters.length) = some 1 := ⟨kwt5 112 (by rfl) rfl, kwp2 4 (by rfl) rfl, kwt1 9 (by rfl) rfl, kwt5 113 (by rfl) rfl, by decide, by decide, by decide +kernel⟩
set_option maxRecDepth 100000 in
theorem cv_X8_156 : CWV "DoorWalkModel" 156 yX8_digits cX8_digits 4 (some .int) 1 := ⟨kwt5 110 (by rfl) rfl, mv_X8_digits⟩
set_option maxRecDepth 100000 in
theorem mv_X8_oneOf : Cond.instanceMethod yX8_oneOf ∈ TB ∧ Cond.selects "DoorWalkModel" yX8_oneOf yX8_oneOf ∈ TB ∧ Cond.initialized "DoorWalkModel" ∈ TB ∧ Cond.code yX8_oneOf cX8_oneOf 3 (some .int) ∈ TB ∧ "DoorWalkModel" ≠ "java/lang/invoke/MethodHandle" ∧ "DoorWalkModel" ≠ "java/lang/invoke/VarHandle" ∧ (parseMethodDescriptor "(CI)I").map (fun d => d.parameters.length) = some 2 := ⟨kwt5 116 (by rfl) rfl, kwp2 5 (by rfl) rfl, kwt1 9 (by rfl) rfl, kwt5 117 (by rfl) rfl, by decide, by decide, by decide +kernel⟩
set_option maxRecDepth 100000 in
theorem cv_X8_149 : CWV "DoorWalkModel" 149 yX8_oneOf cX8_oneOf 3 (some .int) 2 := ⟨kwt5 114 (by rfl) rfl, mv_X8_oneOf⟩
set_option maxRecDepth 100000 in
theorem mv_X8_fine : Cond.instanceMethod yX8_fine ∈ TB ∧ Cond.selects "DoorWalkModel" yX8_fine yX8_fine ∈ TB ∧ Cond.initialized "DoorWalkModel" ∈ TB ∧ Cond.code yX8_fine cX8_fine 1 (some .boolean) ∈ TB ∧ "DoorWalkModel" ≠ "java/lang/invoke/MethodHandle" ∧ "DoorWalkModel" ≠ "java/lang/invoke/VarHandle" ∧ (parseMethodDescriptor "()Z").map (fun d => d.parameters.length) = some 0 := ⟨kwt5 120 (by rfl) rfl, kwp2 6 (by rfl) rfl, kwt1 9 (by rfl) rfl, kwt5 121 (by rfl) rfl, by decide, by decide, by decide +kernel⟩
set_option maxRecDepth 100000 in
theorem cv_X8_138 : CWV "DoorWalkModel" 138 yX8_fine cX8_fine 1 (some .boolean) 0 := ⟨kwt5 118 (by rfl) rfl, mv_X8_fine⟩
set_option maxRecDepth 100000 in
theorem mv_X8_here : Cond.instanceMethod yX8_here ∈ TB ∧ Cond.selects "DoorWalkModel" yX8_here yX8_here ∈ TB ∧ Cond.initialized "DoorWalkModel" ∈ TB ∧ Cond.code yX8_here cX8_here 1 (some .int) ∈ TB ∧ "DoorWalkModel" ≠ "java/lang/invoke/MethodHandle" ∧ "DoorWalkModel" ≠ "java/lang/invoke/VarHandle" ∧ (parseMethodDescriptor "()I").map (fun d => d.parameters.length) = some 0 := ⟨kwt5 124 (by rfl) rfl, kwp2 7 (by rfl) rfl, kwt1 9 (by rfl) rfl, kwt5 125 (by rfl) rfl, by decide, by decide, by decide +kernel⟩
set_option maxRecDepth 100000 in
theorem cv_X8_142 : CWV "DoorWalkModel" 142 yX8_here cX8_here 1 (some .int) 0 := ⟨kwt5 122 (by rfl) rfl, mv_X8_here⟩
set_option maxRecDepth 100000 in
theorem mv_X8_fault : Cond.instanceMethod yX8_fault ∈ TB ∧ Cond.selects "DoorWalkModel" yX8_fault yX8_fault ∈ TB ∧ Cond.initialized "DoorWalkModel" ∈ TB ∧ Cond.code yX8_fault cX8_fault 2 none ∈ TB ∧ "DoorWalkModel" ≠ "java/lang/invoke/MethodHandle" ∧ "DoorWalkModel" ≠ "java/lang/invoke/VarHandle" ∧ (parseMethodDescriptor "(I)V").map (fun d => d.parameters.length) = some 1 := ⟨kwt5 128 (by rfl) rfl, kwp2 8 (by rfl) rfl, kwt1 9 (by rfl) rfl, kwt5 129 (by rfl) rfl, by decide, by decide, by decide +kernel⟩
set_option maxRecDepth 100000 in
theorem cv_X8_145 : CWV "DoorWalkModel" 145 yX8_fault cX8_fault 2 none 1 := ⟨kwt5 126 (by rfl) rfl, mv_X8_fault⟩
set_option maxRecDepth 100000 in
theorem mv_X8_wasRight : Cond.instanceMethod yX8_wasRight ∈ TB ∧ Cond.selects "DoorWalkModel" yX8_wasRight yX8_wasRight ∈ TB ∧ Cond.initialized "DoorWalkModel" ∈ TB ∧ Cond.code yX8_wasRight cX8_wasRight 1 (some .boolean) ∈ TB ∧ "DoorWalkModel" ≠ "java/lang/invoke/MethodHandle" ∧ "DoorWalkModel" ≠ "java/lang/invoke/VarHandle" ∧ (parseMethodDescriptor "()Z").map (fun d => d.parameters.length) = some 0 := ⟨kwt5 132 (by rfl) rfl, kwp2 9 (by rfl) rfl, kwt1 9 (by rfl) rfl, kwt5 133 (by rfl) rfl, by decide, by decide, by decide +kernel⟩
set_option maxRecDepth 100000 in
theorem cv_X8_159 : CWV "DoorWalkModel" 159 yX8_wasRight cX8_wasRight 1 (some .boolean) 0 := ⟨kwt5 130 (by rfl) rfl, mv_X8_wasRight⟩
set_option maxRecDepth 100000 in
theorem mv_X8_change : Cond.instanceMethod yX8_change ∈ TB ∧ Cond.selects "DoorWalkModel" yX8_change yX8_change ∈ TB ∧ Cond.initialized "DoorWalkModel" ∈ TB ∧ Cond.code yX8_change cX8_change 1 none ∈ TB ∧ "DoorWalkModel" ≠ "java/lang/invoke/MethodHandle" ∧ "DoorWalkModel" ≠ "java/lang/invoke/VarHandle" ∧ (parseMethodDescriptor "()V").map (fun d => d.parameters.length) = some 0 := ⟨kwt5 136 (by rfl) rfl, kwp2 10 (by rfl) rfl, kwt1 9 (by rfl) rfl, kwt5 137 (by rfl) rfl, by decide, by decide, by decide +kernel⟩
set_option maxRecDepth 100000 in
theorem cv_X8_162 : CWV "DoorWalkModel" 162 yX8_change cX8_change 1 none 0 := ⟨kwt5 134 (by rfl) rfl, mv_X8_change⟩
set_option maxRecDepth 100000 in
theorem mv_X8_lay : Cond.instanceMethod yX8_lay ∈ TB ∧ Cond.selects "DoorWalkModel" yX8_lay yX8_lay ∈ TB ∧ Cond.initialized "DoorWalkModel" ∈ TB ∧ Cond.code yX8_lay cX8_lay 2 none ∈ TB ∧ "DoorWalkModel" ≠ "java/lang/invoke/MethodHandle" ∧ "DoorWalkModel" ≠ "java/lang/invoke/VarHandle" ∧ (parseMethodDescriptor "()V").map (fun d => d.parameters.length) = some 0 := ⟨kwt5 140 (by rfl) rfl, kwp2 11 (by rfl) rfl, kwt1 9 (by rfl) rfl, kwt5 141 (by rfl) rfl, by decide, by decide, by decide +kernel⟩
set_option maxRecDepth 100000 in
theorem cv_X8_309 : CWV "DoorWalkModel" 309 yX8_lay cX8_lay 2 none 0 := ⟨kwt5 138 (by rfl) rfl, mv_X8_lay⟩
set_option maxRecDepth 100000 in
theorem mv_X8_note : Cond.instanceMethod yX8_note ∈ TB ∧ Cond.selects "DoorWalkModel" yX8_note yX8_note ∈ TB ∧ Cond.initialized "DoorWalkModel" ∈ TB ∧ Cond.code yX8_note cX8_note 2 none ∈ TB ∧ "DoorWalkModel" ≠ "java/lang/invoke/MethodHandle" ∧ "DoorWalkModel" ≠ "java/lang/invoke/VarHandle" ∧ (parseMethodDescriptor "()V").map (fun d => d.parameters.length) = some 0 := ⟨kwt5 144 (by rfl) rfl, kwp2 12 (by rfl) rfl, kwt1 9 (by rfl) rfl, kwt5 145 (by rfl) rfl, by decide, by decide, by decide +kernel⟩
set_option maxRecDepth 100000 in
theorem cv_X8_312 : CWV "DoorWalkModel" 312 yX8_note cX8_note 2 none 0 := ⟨kwt5 142 (by rfl) rfl, mv_X8_note⟩
set_option maxRecDepth 100000 in
theorem mv_X8_exchange : Cond.instanceMethod yX8_exchange ∈ TB ∧ Cond.selects "DoorWalkModel" yX8_exchange yX8_exchange ∈ TB ∧ Cond.initialized "DoorWalkModel" ∈ TB ∧ Cond.code yX8_exchange cX8_exchange 5 (some .int) ∈ TB ∧ "DoorWalkModel" ≠ "java/lang/invoke/MethodHandle" ∧ "DoorWalkModel" ≠ "java/lang/invoke/VarHandle" ∧ (parseMethodDescriptor "()I").map (fun d => d.parameters.length) = some 0 := ⟨kwt5 147 (by rfl) rfl, kwt5 148 (by rfl) rfl, kwt1 9 (by rfl) rfl, kwt5 149 (by rfl) rfl, by decide, by decide, by decide +kernel⟩
set_option maxRecDepth 100000 in
theorem cv_L_45 : CWV "DoorWalkLaw" 45 yX8_exchange cX8_exchange 5 (some .int) 0 := ⟨kwt5 146 (by rfl) rfl, mv_X8_exchange⟩
set_option maxRecDepth 100000 in
theorem mv_X8_passes : Cond.instanceMethod yX8_passes ∈ TB ∧ Cond.selects "DoorWalkModel" yX8_passes yX8_passes ∈ TB ∧ Cond.initialized "DoorWalkModel" ∈ TB ∧ Cond.code yX8_passes cX8_passes 2 (some .boolean) ∈ TB ∧ "DoorWalkModel" ≠ "java/lang/invoke/MethodHandle" ∧ "DoorWalkModel" ≠ "java/lang/invoke/VarHandle" ∧ (parseMethodDescriptor "(C)Z").map (fun d => d.parameters.length) = some 1 := ⟨kwt5 152 (by rfl) rfl, kwp2 13 (by rfl) rfl, kwt1 9 (by rfl) rfl, kwt5 153 (by rfl) rfl, by decide, by decide, by decide +kernel⟩
set_option maxRecDepth 100000 in
theorem cv_X8_165 : CWV "DoorWalkModel" 165 yX8_passes cX8_passes 2 (some .boolean) 1 := ⟨kwt5 150 (by rfl) rfl, mv_X8_passes⟩
set_option maxRecDepth 100000 in
theorem mv_X8_layRule : Cond.instanceMethod yX8_layRule ∈ TB ∧ Cond.selects "DoorWalkModel" yX8_layRule yX8_layRule ∈ TB ∧ Cond.initialized "DoorWalkModel" ∈ TB ∧ Cond.code yX8_layRule cX8_layRule 3 none ∈ TB ∧ "DoorWalkModel" ≠ "java/lang/invoke/MethodHandle" ∧ "DoorWalkModel" ≠ "java/lang/invoke/VarHandle" ∧ (parseMethodDescriptor "()V").map (fun d => d.parameters.length) = some 0 := ⟨kwt5 156 (by rfl) rfl, kwp2 14 (by rfl) rfl, kwt1 9 (by rfl) rfl, kwt5 157 (by rfl) rfl, by decide, by decide, by decide +kernel⟩
set_option maxRecDepth 100000 in
theorem cv_X8_169 : CWV "DoorWalkModel" 169 yX8_layRule cX8_layRule 3 none 0 := ⟨kwt5 154 (by rfl) rfl, mv_X8_layRule⟩
set_option maxRecDepth 100000 in
theorem mv_X8_byExchange : Cond.instanceMethod yX8_byExchange ∈ TB ∧ Cond.selects "DoorWalkModel" yX8_byExchange yX8_byExchange ∈ TB ∧ Cond.initialized "DoorWalkModel" ∈ TB ∧ Cond.code yX8_byExchange cX8_byExchange 5 (some .int) ∈ TB ∧ "DoorWalkModel" ≠ "java/lang/invoke/MethodHandle" ∧ "DoorWalkModel" ≠ "java/lang/invoke/VarHandle" ∧ (parseMethodDescriptor "(II)I").map (fun d => d.parameters.length) = some 2 := ⟨kwt5 160 (by rfl) rfl, kwp2 15 (by rfl) rfl, kwt1 9 (by rfl) rfl, kwt5 161 (by rfl) rfl, by decide, by decide, by decide +kernel⟩
set_option maxRecDepth 100000 in
theorem cv_X8_120 : CWV "DoorWalkModel" 120 yX8_byExchange cX8_byExchange 5 (some .int) 2 := ⟨kwt5 158 (by rfl) rfl, mv_X8_byExchange⟩
set_option maxRecDepth 100000 in
theorem mv_X8_canHave : Cond.instanceMethod yX8_canHave ∈ TB ∧ Cond.selects "DoorWalkModel" yX8_canHave yX8_canHave ∈ TB ∧ Cond.initialized "DoorWalkModel" ∈ TB ∧ Cond.code yX8_canHave cX8_canHave 4 (some .boolean) ∈ TB ∧ "DoorWalkModel" ≠ "java/lang/invoke/MethodHandle" ∧ "DoorWalkModel" ≠ "java/lang/invoke/VarHandle" ∧ (parseMethodDescriptor "(III)Z").map (fun d => d.parameters.length) = some 3 := ⟨kwt5 164 (by rfl) rfl, kwp3 0 (by rfl) rfl, kwt1 9 (by rfl) rfl, kwt5 165 (by rfl) rfl, by decide, by decide, by decide +kernel⟩
set_option maxRecDepth 100000 in
theorem cv_X8_111 : CWV "DoorWalkModel" 111 yX8_canHave cX8_canHave 4 (some .boolean) 3 := ⟨kwt5 162 (by rfl) rfl, mv_X8_canHave⟩
set_option maxRecDepth 100000 in
theorem mv_X8_price : Cond.instanceMethod yX8_price ∈ TB ∧ Cond.selects "DoorWalkModel" yX8_price yX8_price ∈ TB ∧ Cond.initialized "DoorWalkModel" ∈ TB ∧ Cond.code yX8_price cX8_price 4 (some .int) ∈ TB ∧ "DoorWalkModel" ≠ "java/lang/invoke/MethodHandle" ∧ "DoorWalkModel" ≠ "java/lang/invoke/VarHandle" ∧ (parseMethodDescriptor "(III)I").map (fun d => d.parameters.length) = some 3 := ⟨kwt5 168 (by rfl) rfl, kwp3 1 (by rfl) rfl, kwt1 9 (by rfl) rfl, kwt5 169 (by rfl) rfl, by decide, by decide, by decide +kernel⟩
set_option maxRecDepth 100000 in
theorem cv_X8_76 : CWV "DoorWalkModel" 76 yX8_price cX8_price 4 (some .int) 3 := ⟨kwt5 166 (by rfl) rfl, mv_X8_price⟩
set_option maxRecDepth 100000 in
theorem mv_X8_excessOf : Cond.instanceMethod yX8_excessOf ∈ TB ∧ Cond.selects "DoorWalkModel" yX8_excessOf yX8_excessOf ∈ TB ∧ Cond.initialized "DoorWalkModel" ∈ TB ∧ Cond.code yX8_excessOf cX8_excessOf 8 (some .int) ∈ TB ∧ "DoorWalkModel" ≠ "java/lang/invoke/MethodHandle" ∧ "DoorWalkModel" ≠ "java/lang/invoke/VarHandle" ∧ (parseMethodDescriptor "(III)I").map (fun d => d.parameters.length) = some 3 := ⟨kwt5 172 (by rfl) rfl, kwp3 2 (by rfl) rfl, kwt1 9 (by rfl) rfl, kwt5 173 (by rfl) rfl, by decide, by decide, by decide +kernel⟩
set_option maxRecDepth 100000 in
theorem cv_X8_100 : CWV "DoorWalkModel" 100 yX8_excessOf cX8_excessOf 8 (some .int) 3 := ⟨kwt5 170 (by rfl) rfl, mv_X8_excessOf⟩
set_option maxRecDepth 100000 in
theorem mv_X8_wishes : Cond.instanceMethod yX8_wishes ∈ TB ∧ Cond.selects "DoorWalkModel" yX8_wishes yX8_wishes ∈ TB ∧ Cond.initialized "DoorWalkModel" ∈ TB ∧ Cond.code yX8_wishes cX8_wishes 2 (some .int) ∈ TB ∧ "DoorWalkModel" ≠ "java/lang/invoke/MethodHandle" ∧ "DoorWalkModel" ≠ "java/lang/invoke/VarHandle" ∧ (parseMethodDescriptor "(I)I").map (fun d => d.parameters.length) = some 1 := ⟨kwt5 176 (by rfl) rfl, kwp3 3 (by rfl) rfl, kwt1 9 (by rfl) rfl, kwt5 177 (by rfl) rfl, by decide, by decide, by decide +kernel⟩
set_option maxRecDepth 100000 in
theorem cv_X8_94 : CWV "DoorWalkModel" 94 yX8_wishes cX8_wishes 2 (some .int) 1 := ⟨kwt5 174 (by rfl) rfl, mv_X8_wishes⟩
set_option maxRecDepth 100000 in
theorem mv_X8_wish : Cond.instanceMethod yX8_wish ∈ TB ∧ Cond.selects "DoorWalkModel" yX8_wish yX8_wish ∈ TB ∧ Cond.initialized "DoorWalkModel" ∈ TB ∧ Cond.code yX8_wish cX8_wish 3 (some .int) ∈ TB ∧ "DoorWalkModel" ≠ "java/lang/invoke/MethodHandle" ∧ "DoorWalkModel" ≠ "java/lang/invoke/VarHandle" ∧ (parseMethodDescriptor "(II)I").map (fun d => d.parameters.length) = some 2 := ⟨kwt5 180 (by rfl) rfl, kwp3 4 (by rfl) rfl, kwt1 9 (by rfl) rfl, kwt5 181 (by rfl) rfl, by decide, by decide, by decide +kernel⟩
set_option maxRecDepth 100000 in
theorem cv_X8_88 : CWV "DoorWalkModel" 88 yX8_wish cX8_wish 3 (some .int) 2 := ⟨kwt5 178 (by rfl) rfl, mv_X8_wish⟩
set_option maxRecDepth 100000 in
theorem mv_X8_income : Cond.instanceMethod yX8_income ∈ TB ∧ Cond.selects "DoorWalkModel" yX8_income yX8_income ∈ TB ∧ Cond.initialized "DoorWalkModel" ∈ TB ∧ Cond.code yX8_income cX8_income 6 (some .int) ∈ TB ∧ "DoorWalkModel" ≠ "java/lang/invoke/MethodHandle" ∧ "DoorWalkModel" ≠ "java/lang/invoke/VarHandle" ∧ (parseMethodDescriptor "(III)I").map (fun d => d.parameters.length) = some 3 := ⟨kwt5 184 (by rfl) rfl, kwp3 5 (by rfl) rfl, kwt1 9 (by rfl) rfl, kwt5 185 (by rfl) rfl, by decide, by decide, by decide +kernel⟩
set_option maxRecDepth 100000 in
theorem cv_X8_97 : CWV "DoorWalkModel" 97 yX8_income cX8_income 6 (some .int) 3 := ⟨kwt5 182 (by rfl) rfl, mv_X8_income⟩
set_option maxRecDepth 100000 in
theorem mv_X8_amount : Cond.instanceMethod yX8_amount ∈ TB ∧ Cond.selects "DoorWalkModel" yX8_amount yX8_amount ∈ TB ∧ Cond.initialized "DoorWalkModel" ∈ TB ∧ Cond.code yX8_amount cX8_amount 3 (some .int) ∈ TB ∧ "DoorWalkModel" ≠ "java/lang/invoke/MethodHandle" ∧ "DoorWalkModel" ≠ "java/lang/invoke/VarHandle" ∧ (parseMethodDescriptor "(II)I").map (fun d => d.parameters.length) = some 2 := ⟨kwt5 188 (by rfl) rfl, kwp3 6 (by rfl) rfl, kwt1 9 (by rfl) rfl, kwt5 189 (by rfl) rfl, by decide, by decide, by decide +kernel⟩
set_option maxRecDepth 100000 in
theorem cv_X8_91 : CWV "DoorWalkModel" 91 yX8_amount cX8_amount 3 (some .int) 2 := ⟨kwt5 186 (by rfl) rfl, mv_X8_amount⟩
set_option maxRecDepth 100000 in
theorem mv_X8_byMap : Cond.instanceMethod yX8_byMap ∈ TB ∧ Cond.selects "DoorWalkModel" yX8_byMap yX8_byMap ∈ TB ∧ Cond.initialized "DoorWalkModel" ∈ TB ∧ Cond.code yX8_byMap cX8_byMap 4 (some .int) ∈ TB ∧ "DoorWalkModel" ≠ "java/lang/invoke/MethodHandle" ∧ "DoorWalkModel" ≠ "java/lang/invoke/VarHandle" ∧ (parseMethodDescriptor "(II)I").map (fun d => d.parameters.length) = some 2 := ⟨kwt5 192 (by rfl) rfl, kwp3 7 (by rfl) rfl, kwt1 9 (by rfl) rfl, kwt5 193 (by rfl) rfl, by decide, by decide, by decide +kernel⟩
set_option maxRecDepth 100000 in
theorem cv_X8_123 : CWV "DoorWalkModel" 123 yX8_byMap cX8_byMap 4 (some .int) 2 := ⟨kwt5 190 (by rfl) rfl, mv_X8_byMap⟩
set_option maxRecDepth 100000 in
theorem mv_X8_mapped : Cond.instanceMethod yX8_mapped ∈ TB ∧ Cond.selects "DoorWalkModel" yX8_mapped yX8_mapped ∈ TB ∧ Cond.initialized "DoorWalkModel" ∈ TB ∧ Cond.code yX8_mapped cX8_mapped 6 (some .int) ∈ TB ∧ "DoorWalkModel" ≠ "java/lang/invoke/MethodHandle" ∧ "DoorWalkModel" ≠ "java/lang/invoke/VarHandle" ∧ (parseMethodDescriptor "(III)I").map (fun d => d.parameters.length) = some 3 := ⟨kwt5 196 (by rfl) rfl, kwp3 8 (by rfl) rfl, kwt1 9 (by rfl) rfl, kwt5 197 (by rfl) rfl, by decide, by decide, by decide +kernel⟩
set_option maxRecDepth 100000 in
theorem cv_X8_114 : CWV "DoorWalkModel" 114 yX8_mapped cX8_mapped 6 (some .int) 3 := ⟨kwt5 194 (by rfl) rfl, mv_X8_mapped⟩
set_option maxRecDepth 100000 in
theorem mv_X8_mapSum : Cond.instanceMethod yX8_mapSum ∈ TB ∧ Cond.selects "DoorWalkModel" yX8_mapSum yX8_mapSum ∈ TB ∧ Cond.initialized "DoorWalkModel" ∈ TB ∧ Cond.code yX8_mapSum cX8_mapSum 2 (some .int) ∈ TB ∧ "DoorWalkModel" ≠ "java/lang/invoke/MethodHandle" ∧ "DoorWalkModel" ≠ "java/lang/invoke/VarHandle" ∧ (parseMethodDescriptor "(I)I").map (fun d => d.parameters.length) = some 1 := ⟨kwt5 200 (by rfl) rfl, kwp3 9 (by rfl) rfl, kwt1 9 (by rfl) rfl, kwt5 201 (by rfl) rfl, by decide, by decide, by decide +kernel⟩
set_option maxRecDepth 100000 in
theorem cv_X8_117 : CWV "DoorWalkModel" 117 yX8_mapSum cX8_mapSum 2 (some .int) 1 := ⟨kwt5 198 (by rfl) rfl, mv_X8_mapSum⟩
set_option maxRecDepth 100000 in
theorem mv_X8_map : Cond.instanceMethod yX8_map ∈ TB ∧ Cond.selects "DoorWalkModel" yX8_map yX8_map ∈ TB ∧ Cond.initialized "DoorWalkModel" ∈ TB ∧ Cond.code yX8_map cX8_map 3 (some .int) ∈ TB ∧ "DoorWalkModel" ≠ "java/lang/invoke/MethodHandle" ∧ "DoorWalkModel" ≠ "java/lang/invoke/VarHandle" ∧ (parseMethodDescriptor "()I").map (fun d => d.parameters.length) = some 0 := ⟨kwt5 203 (by rfl) rfl, kwt5 204 (by rfl) rfl, kwt1 9 (by rfl) rfl, kwt5 205 (by rfl) rfl, by decide, by decide, by decide +kernel⟩
set_option maxRecDepth 100000 in
theorem cv_L_49 : CWV "DoorWalkLaw" 49 yX8_map cX8_map 3 (some .int) 0 := ⟨kwt5 202 (by rfl) rfl, mv_X8_map⟩
set_option maxRecDepth 100000 in
theorem mv_X8_sheet : Cond.instanceMethod yX8_sheet ∈ TB ∧ Cond.selects "DoorWalkModel" yX8_sheet yX8_sheet ∈ TB ∧ Cond.initialized "DoorWalkModel" ∈ TB ∧ Cond.code yX8_sheet cX8_sheet 11 (some .int) ∈ TB ∧ "DoorWalkModel" ≠ "java/lang/invoke/MethodHandle" ∧ "DoorWalkModel" ≠ "java/lang/invoke/VarHandle" ∧ (parseMethodDescriptor "(IIIII)I").map (fun d => d.parameters.length) = some 5 := ⟨kwt5 207 (by rfl) rfl, kwt5 208 (by rfl) rfl, kwt1 9 (by rfl) rfl, kwt5 209 (by rfl) rfl, by decide, by decide, by decide +kernel⟩
set_option maxRecDepth 100000 in
theorem cv_L_54 : CWV "DoorWalkLaw" 54 yX8_sheet cX8_sheet 11 (some .int) 5 := ⟨kwt5 206 (by rfl) rfl, mv_X8_sheet⟩
set_option maxRecDepth 100000 in
theorem mv_X8_points : Cond.instanceMethod yX8_points ∈ TB ∧ Cond.selects "DoorWalkModel" yX8_points yX8_points ∈ TB ∧ Cond.initialized "DoorWalkModel" ∈ TB ∧ Cond.code yX8_points cX8_points 1 (some .int) ∈ TB ∧ "DoorWalkModel" ≠ "java/lang/invoke/MethodHandle" ∧ "DoorWalkModel" ≠ "java/lang/invoke/VarHandle" ∧ (parseMethodDescriptor "()I").map (fun d => d.parameters.length) = some 0 := ⟨kwt5 212 (by rfl) rfl, kwp3 10 (by rfl) rfl, kwt1 9 (by rfl) rfl, kwt5 213 (by rfl) rfl, by decide, by decide, by decide +kernel⟩
set_option maxRecDepth 100000 in
theorem cv_X8_172 : CWV "DoorWalkModel" 172 yX8_points cX8_points 1 (some .int) 0 := ⟨kwt5 210 (by rfl) rfl, mv_X8_points⟩
set_option maxRecDepth 100000 in
theorem ms_X8_entryOf : Cond.static yX8_entryOf ∈ TB ∧ Cond.initialized "DoorWalkModel" ∈ TB ∧ Cond.code yX8_entryOf cX8_entryOf 5 (some .int) ∈ TB ∧ "DoorWalkModel" ≠ "java/lang/invoke/MethodHandle" ∧ "DoorWalkModel" ≠ "java/lang/invoke/VarHandle" ∧ (parseMethodDescriptor "(IIII)I").map (fun d => d.parameters.length) = some 4 := ⟨kwt5 215 (by rfl) rfl, kwt1 9 (by rfl) rfl, kwt5 216 (by rfl) rfl, by decide, by decide, by decide +kernel⟩
set_option maxRecDepth 100000 in
theorem cs_X8_175 : CWS "DoorWalkModel" 175 yX8_entryOf cX8_entryOf 5 (some .int) 4 := ⟨kwt5 214 (by rfl) rfl, ms_X8_entryOf⟩
set_option maxRecDepth 100000 in
theorem mv_X8_iOf : Cond.instanceMethod yX8_iOf ∈ TB ∧ Cond.selects "DoorWalkModel" yX8_iOf yX8_iOf ∈ TB ∧ Cond.initialized "DoorWalkModel" ∈ TB ∧ Cond.code yX8_iOf cX8_iOf 3 (some .int) ∈ TB ∧ "DoorWalkModel" ≠ "java/lang/invoke/MethodHandle" ∧ "DoorWalkModel" ≠ "java/lang/invoke/VarHandle" ∧ (parseMethodDescriptor "(I)I").map (fun d => d.parameters.length) = some 1 := ⟨kwt5 219 (by rfl) rfl, kwp3 11 (by rfl) rfl, kwt1 9 (by rfl) rfl, kwt5 220 (by rfl) rfl, by decide, by decide, by decide +kernel⟩
set_option maxRecDepth 100000 in
theorem cv_X8_84 : CWV "DoorWalkModel" 84 yX8_iOf cX8_iOf 3 (some .int) 1 := ⟨kwt5 217 (by rfl) rfl, mv_X8_iOf⟩
set_option maxRecDepth 100000 in
theorem mv_X8_jOf : Cond.instanceMethod yX8_jOf ∈ TB ∧ Cond.selects "DoorWalkModel" yX8_jOf yX8_jOf ∈ TB ∧ Cond.initialized "DoorWalkModel" ∈ TB ∧ Cond.code yX8_jOf cX8_jOf 2 (some .int) ∈ TB ∧ "DoorWalkModel" ≠ "java/lang/invoke/MethodHandle" ∧ "DoorWalkModel" ≠ "java/lang/invoke/VarHandle" ∧ (parseMethodDescriptor "(I)I").map (fun d => d.parameters.length) = some 1 := ⟨kwt5 223 (by rfl) rfl, kwp3 12 (by rfl) rfl, kwt1 9 (by rfl) rfl, kwt5 224 (by rfl) rfl, by decide, by decide, by decide +kernel⟩
set_option maxRecDepth 100000 in
theorem cv_X8_179 : CWV "DoorWalkModel" 179 yX8_jOf cX8_jOf 2 (some .int) 1 := ⟨kwt5 221 (by rfl) rfl, mv_X8_jOf⟩
set_option maxRecDepth 100000 in
theorem mv_X8_tell : Cond.instanceMethod yX8_tell ∈ TB ∧ Cond.selects "DoorWalkModel" yX8_tell yX8_tell ∈ TB ∧ Cond.initialized "DoorWalkModel" ∈ TB ∧ Cond.code yX8_tell cX8_tell 3 none ∈ TB ∧ "DoorWalkModel" ≠ "java/lang/invoke/MethodHandle" ∧ "DoorWalkModel" ≠ "java/lang/invoke/VarHandle" ∧ (parseMethodDescriptor "(J)V").map (fun d => d.parameters.length) = some 1 := ⟨kwt5 227 (by rfl) rfl, kwp3 13 (by rfl) rfl, kwt1 9 (by rfl) rfl, kwt5 228 (by rfl) rfl, by decide, by decide, by decide +kernel⟩
set_option maxRecDepth 100000 in
theorem cv_X8_182 : CWV "DoorWalkModel" 182 yX8_tell cX8_tell 3 none 1 := ⟨kwt5 225 (by rfl) rfl, mv_X8_tell⟩
set_option maxRecDepth 100000 in
theorem mv_X8_labelAt : Cond.instanceMethod yX8_labelAt ∈ TB ∧ Cond.selects "DoorWalkModel" yX8_labelAt yX8_labelAt ∈ TB ∧ Cond.initialized "DoorWalkModel" ∈ TB ∧ Cond.code yX8_labelAt cX8_labelAt 2 (some .int) ∈ TB ∧ "DoorWalkModel" ≠ "java/lang/invoke/MethodHandle" ∧ "DoorWalkModel" ≠ "java/lang/invoke/VarHandle" ∧ (parseMethodDescriptor "(I)I").map (fun d => d.parameters.length) = some 1 := ⟨kwt5 232 (by rfl) rfl, kwp3 14 (by rfl) rfl, kwt1 9 (by rfl) rfl, kwt5 233 (by rfl) rfl, by decide, by decide, by decide +kernel⟩
set_option maxRecDepth 100000 in
theorem cv_X8_188 : CWV "DoorWalkModel" 188 yX8_labelAt cX8_labelAt 2 (some .int) 1 := ⟨kwt5 230 (by rfl) rfl, mv_X8_labelAt⟩
set_option maxRecDepth 100000 in
theorem mv_X8_label : Cond.instanceMethod yX8_label ∈ TB ∧ Cond.selects "DoorWalkModel" yX8_label yX8_label ∈ TB ∧ Cond.initialized "DoorWalkModel" ∈ TB ∧ Cond.code yX8_label cX8_label 3 (some .int) ∈ TB ∧ "DoorWalkModel" ≠ "java/lang/invoke/MethodHandle" ∧ "DoorWalkModel" ≠ "java/lang/invoke/VarHandle" ∧ (parseMethodDescriptor "(II)I").map (fun d => d.parameters.length) = some 2 := ⟨kwt5 235 (by rfl) rfl, kwt5 236 (by rfl) rfl, kwt1 9 (by rfl) rfl, kwt5 237 (by rfl) rfl, by decide, by decide, by decide +kernel⟩
set_option maxRecDepth 100000 in
theorem cv_L_60 : CWV "DoorWalkLaw" 60 yX8_label cX8_label 3 (some .int) 2 := ⟨kwt5 234 (by rfl) rfl, mv_X8_label⟩
set_option maxRecDepth 100000 in
theorem mv_X8_isPoint : Cond.instanceMethod yX8_isPoint ∈ TB ∧ Cond.selects "DoorWalkModel" yX8_isPoint yX8_isPoint ∈ TB ∧ Cond.initialized "DoorWalkModel" ∈ TB ∧ Cond.code yX8_isPoint cX8_isPoint 3 (some .boolean) ∈ TB ∧ "DoorWalkModel" ≠ "java/lang/invoke/MethodHandle" ∧ "DoorWalkModel" ≠ "java/lang/invoke/VarHandle" ∧ (parseMethodDescriptor "(II)Z").map (fun d => d.parameters.length) = some 2 := ⟨kwt6 0 (by rfl) rfl, kwp3 15 (by rfl) rfl, kwt1 9 (by rfl) rfl, kwt6 1 (by rfl) rfl, by decide, by decide, by decide +kernel⟩
set_option maxRecDepth 100000 in
theorem cv_X8_219 : CWV "DoorWalkModel" 219 yX8_isPoint cX8_isPoint 3 (some .boolean) 2 := ⟨kwt5 238 (by rfl) rfl, mv_X8_isPoint⟩
set_option maxRecDepth 100000 in
theorem mv_X8_lost : Cond.instanceMethod yX8_lost ∈ TB ∧ Cond.selects "DoorWalkModel" yX8_lost yX8_lost ∈ TB ∧ Cond.initialized "DoorWalkModel" ∈ TB ∧ Cond.code yX8_lost cX8_lost 1 (some .int) ∈ TB ∧ "DoorWalkModel" ≠ "java/lang/invoke/MethodHandle" ∧ "DoorWalkModel" ≠ "java/lang/invoke/VarHandle" ∧ (parseMethodDescriptor "()I").map (fun d => d.parameters.length) = some 0 := ⟨kwt6 4 (by rfl) rfl, kwp4 0 (by rfl) rfl, kwt1 9 (by rfl) rfl, kwt6 5 (by rfl) rfl, by decide, by decide, by decide +kernel⟩
set_option maxRecDepth 100000 in
theorem cv_X8_223 : CWV "DoorWalkModel" 223 yX8_lost cX8_lost 1 (some .int) 0 := ⟨kwt6 2 (by rfl) rfl, mv_X8_lost⟩
set_option maxRecDepth 100000 in
theorem mv_X8_point : Cond.instanceMethod yX8_point ∈ TB ∧ Cond.selects "DoorWalkModel" yX8_point yX8_point ∈ TB ∧ Cond.initialized "DoorWalkModel" ∈ TB ∧ Cond.code yX8_point cX8_point 4 (some .int) ∈ TB ∧ "DoorWalkModel" ≠ "java/lang/invoke/MethodHandle" ∧ "DoorWalkModel" ≠ "java/lang/invoke/VarHandle" ∧ (parseMethodDescriptor "(II)I").map (fun d => d.parameters.length) = some 2 := ⟨kwt6 7 (by rfl) rfl, kwt6 8 (by rfl) rfl, kwt1 9 (by rfl) rfl, kwt6 9 (by rfl) rfl, by decide, by decide, by decide +kernel⟩
set_option maxRecDepth 100000 in
theorem cv_L_67 : CWV "DoorWalkLaw" 67 yX8_point cX8_point 4 (some .int) 2 := ⟨kwt6 6 (by rfl) rfl, mv_X8_point⟩
set_option maxRecDepth 100000 in
theorem mv_X8_cell : Cond.instanceMethod yX8_cell ∈ TB ∧ Cond.selects "DoorWalkModel" yX8_cell yX8_cell ∈ TB ∧ Cond.initialized "DoorWalkModel" ∈ TB ∧ Cond.code yX8_cell cX8_cell 3 (some .int) ∈ TB ∧ "DoorWalkModel" ≠ "java/lang/invoke/MethodHandle" ∧ "DoorWalkModel" ≠ "java/lang/invoke/VarHandle" ∧ (parseMethodDescriptor "(I)I").map (fun d => d.parameters.length) = some 1 := ⟨kwt6 11 (by rfl) rfl, kwt6 12 (by rfl) rfl, kwt1 9 (by rfl) rfl, kwt6 13 (by rfl) rfl, by decide, by decide, by decide +kernel⟩
set_option maxRecDepth 100000 in
theorem cv_L_71 : CWV "DoorWalkLaw" 71 yX8_cell cX8_cell 3 (some .int) 1 := ⟨kwt6 10 (by rfl) rfl, mv_X8_cell⟩
set_option maxRecDepth 100000 in
theorem mv_X8_isCell : Cond.instanceMethod yX8_isCell ∈ TB ∧ Cond.selects "DoorWalkModel" yX8_isCell yX8_isCell ∈ TB ∧ Cond.initialized "DoorWalkModel" ∈ TB ∧ Cond.code yX8_isCell cX8_isCell 2 (some .boolean) ∈ TB ∧ "DoorWalkModel" ≠ "java/lang/invoke/MethodHandle" ∧ "DoorWalkModel" ≠ "java/lang/invoke/VarHandle" ∧ (parseMethodDescriptor "(I)Z").map (fun d => d.parameters.length) = some 1 := ⟨kwt6 16 (by rfl) rfl, kwp4 1 (by rfl) rfl, kwt1 9 (by rfl) rfl, kwt6 17 (by rfl) rfl, by decide, by decide, by decide +kernel⟩
set_option maxRecDepth 100000 in
theorem cv_X8_213 : CWV "DoorWalkModel" 213 yX8_isCell cX8_isCell 2 (some .boolean) 1 := ⟨kwt6 14 (by rfl) rfl, mv_X8_isCell⟩
set_option maxRecDepth 100000 in
theorem mv_X8_cellI : Cond.instanceMethod yX8_cellI ∈ TB ∧ Cond.selects "DoorWalkModel" yX8_cellI yX8_cellI ∈ TB ∧ Cond.initialized "DoorWalkModel" ∈ TB ∧ Cond.code yX8_cellI cX8_cellI 2 (some .int) ∈ TB ∧ "DoorWalkModel" ≠ "java/lang/invoke/MethodHandle" ∧ "DoorWalkModel" ≠ "java/lang/invoke/VarHandle" ∧ (parseMethodDescriptor "(I)I").map (fun d => d.parameters.length) = some 1 := ⟨kwt6 20 (by rfl) rfl, kwp4 2 (by rfl) rfl, kwt1 9 (by rfl) rfl, kwt6 21 (by rfl) rfl, by decide, by decide, by decide +kernel⟩
set_option maxRecDepth 100000 in
theorem cv_X8_191 : CWV "DoorWalkModel" 191 yX8_cellI cX8_cellI 2 (some .int) 1 := ⟨kwt6 18 (by rfl) rfl, mv_X8_cellI⟩
set_option maxRecDepth 100000 in
theorem mv_X8_cellJ : Cond.instanceMethod yX8_cellJ ∈ TB ∧ Cond.selects "DoorWalkModel" yX8_cellJ yX8_cellJ ∈ TB ∧ Cond.initialized "DoorWalkModel" ∈ TB ∧ Cond.code yX8_cellJ cX8_cellJ 2 (some .int) ∈ TB ∧ "DoorWalkModel" ≠ "java/lang/invoke/MethodHandle" ∧ "DoorWalkModel" ≠ "java/lang/invoke/VarHandle" ∧ (parseMethodDescriptor "(I)I").map (fun d => d.parameters.length) = some 1 := ⟨kwt6 24 (by rfl) rfl, kwp4 3 (by rfl) rfl, kwt1 9 (by rfl) rfl, kwt6 25 (by rfl) rfl, by decide, by decide, by decide +kernel⟩
set_option maxRecDepth 100000 in
theorem cv_X8_194 : CWV "DoorWalkModel" 194 yX8_cellJ cX8_cellJ 2 (some .int) 1 := ⟨kwt6 22 (by rfl) rfl, mv_X8_cellJ⟩
set_option maxRecDepth 100000 in
theorem mv_X8_cornerLabel : Cond.instanceMethod yX8_cornerLabel ∈ TB ∧ Cond.selects "DoorWalkModel" yX8_cornerLabel yX8_cornerLabel ∈ TB ∧ Cond.initialized "DoorWalkModel" ∈ TB ∧ Cond.code yX8_cornerLabel cX8_cornerLabel 3 (some .int) ∈ TB ∧ "DoorWalkModel" ≠ "java/lang/invoke/MethodHandle" ∧ "DoorWalkModel" ≠ "java/lang/invoke/VarHandle" ∧ (parseMethodDescriptor "(II)I").map (fun d => d.parameters.length) = some 2 := ⟨kwt6 28 (by rfl) rfl, kwp4 4 (by rfl) rfl, kwt1 9 (by rfl) rfl, kwt6 29 (by rfl) rfl, by decide, by decide, by decide +kernel⟩
set_option maxRecDepth 100000 in
theorem cv_X8_200 : CWV "DoorWalkModel" 200 yX8_cornerLabel cX8_cornerLabel 3 (some .int) 2 := ⟨kwt6 26 (by rfl) rfl, mv_X8_cornerLabel⟩
set_option maxRecDepth 100000 in
theorem mv_X8_corner : Cond.instanceMethod yX8_corner ∈ TB ∧ Cond.selects "DoorWalkModel" yX8_corner yX8_corner ∈ TB ∧ Cond.initialized "DoorWalkModel" ∈ TB ∧ Cond.code yX8_corner cX8_corner 5 (some .int) ∈ TB ∧ "DoorWalkModel" ≠ "java/lang/invoke/MethodHandle" ∧ "DoorWalkModel" ≠ "java/lang/invoke/VarHandle" ∧ (parseMethodDescriptor "(II)I").map (fun d => d.parameters.length) = some 2 := ⟨kwt6 32 (by rfl) rfl, kwp4 5 (by rfl) rfl, kwt1 9 (by rfl) rfl, kwt6 33 (by rfl) rfl, by decide, by decide, by decide +kernel⟩
set_option maxRecDepth 100000 in
theorem cv_X8_197 : CWV "DoorWalkModel" 197 yX8_corner cX8_corner 5 (some .int) 2 := ⟨kwt6 30 (by rfl) rfl, mv_X8_corner⟩
set_option maxRecDepth 100000 in
theorem mv_X8_turn : Cond.instanceMethod yX8_turn ∈ TB ∧ Cond.selects "DoorWalkModel" yX8_turn yX8_turn ∈ TB ∧ Cond.initialized "DoorWalkModel" ∈ TB ∧ Cond.code yX8_turn cX8_turn 2 (some .int) ∈ TB ∧ "DoorWalkModel" ≠ "java/lang/invoke/MethodHandle" ∧ "DoorWalkModel" ≠ "java/lang/invoke/VarHandle" ∧ (parseMethodDescriptor "(I)I").map (fun d => d.parameters.length) = some 1 := ⟨kwt6 36 (by rfl) rfl, kwp4 6 (by rfl) rfl, kwt1 9 (by rfl) rfl, kwt6 37 (by rfl) rfl, by decide, by decide, by decide +kernel⟩
set_option maxRecDepth 100000 in
theorem cv_X8_216 : CWV "DoorWalkModel" 216 yX8_turn cX8_turn 2 (some .int) 1 := ⟨kwt6 34 (by rfl) rfl, mv_X8_turn⟩
set_option maxRecDepth 100000 in
theorem mv_X8_isFull : Cond.instanceMethod yX8_isFull ∈ TB ∧ Cond.selects "DoorWalkModel" yX8_isFull yX8_isFull ∈ TB ∧ Cond.initialized "DoorWalkModel" ∈ TB ∧ Cond.code yX8_isFull cX8_isFull 2 (some .boolean) ∈ TB ∧ "DoorWalkModel" ≠ "java/lang/invoke/MethodHandle" ∧ "DoorWalkModel" ≠ "java/lang/invoke/VarHandle" ∧ (parseMethodDescriptor "(I)Z").map (fun d => d.parameters.length) = some 1 := ⟨kwt6 40 (by rfl) rfl, kwp4 7 (by rfl) rfl, kwt1 9 (by rfl) rfl, kwt6 41 (by rfl) rfl, by decide, by decide, by decide +kernel⟩
set_option maxRecDepth 100000 in
theorem cv_X8_206 : CWV "DoorWalkModel" 206 yX8_isFull cX8_isFull 2 (some .boolean) 1 := ⟨kwt6 38 (by rfl) rfl, mv_X8_isFull⟩
set_option maxRecDepth 100000 in
theorem mv_X8_labelSet : Cond.instanceMethod yX8_labelSet ∈ TB ∧ Cond.selects "DoorWalkModel" yX8_labelSet yX8_labelSet ∈ TB ∧ Cond.initialized "DoorWalkModel" ∈ TB ∧ Cond.code yX8_labelSet cX8_labelSet 2 (some .int) ∈ TB ∧ "DoorWalkModel" ≠ "java/lang/invoke/MethodHandle" ∧ "DoorWalkModel" ≠ "java/lang/invoke/VarHandle" ∧ (parseMethodDescriptor "(I)I").map (fun d => d.parameters.length) = some 1 := ⟨kwt6 44 (by rfl) rfl, kwp4 8 (by rfl) rfl, kwt1 9 (by rfl) rfl, kwt6 45 (by rfl) rfl, by decide, by decide, by decide +kernel⟩
set_option maxRecDepth 100000 in
theorem cv_X8_203 : CWV "DoorWalkModel" 203 yX8_labelSet cX8_labelSet 2 (some .int) 1 := ⟨kwt6 42 (by rfl) rfl, mv_X8_labelSet⟩
set_option maxRecDepth 100000 in
theorem mv_X8_full : Cond.instanceMethod yX8_full ∈ TB ∧ Cond.selects "DoorWalkModel" yX8_full yX8_full ∈ TB ∧ Cond.initialized "DoorWalkModel" ∈ TB ∧ Cond.code yX8_full cX8_full 2 (some .int) ∈ TB ∧ "DoorWalkModel" ≠ "java/lang/invoke/MethodHandle" ∧ "DoorWalkModel" ≠ "java/lang/invoke/VarHandle" ∧ (parseMethodDescriptor "()I").map (fun d => d.parameters.length) = some 0 := ⟨kwt6 47 (by rfl) rfl, kwt6 48 (by rfl) rfl, kwt1 9 (by rfl) rfl, kwt6 49 (by rfl) rfl, by decide, by decide, by decide +kernel⟩
set_option maxRecDepth 100000 in
theorem cv_L_75 : CWV "DoorWalkLaw" 75 yX8_full cX8_full 2 (some .int) 0 := ⟨kwt6 46 (by rfl) rfl, mv_X8_full⟩
set_option maxRecDepth 100000 in
theorem mv_X8_fullMany : Cond.instanceMethod yX8_fullMany ∈ TB ∧ Cond.selects "DoorWalkModel" yX8_fullMany yX8_fullMany ∈ TB ∧ Cond.initialized "DoorWalkModel" ∈ TB ∧ Cond.code yX8_fullMany cX8_fullMany 3 (some .int) ∈ TB ∧ "DoorWalkModel" ≠ "java/lang/invoke/MethodHandle" ∧ "DoorWalkModel" ≠ "java/lang/invoke/VarHandle" ∧ (parseMethodDescriptor "()I").map (fun d => d.parameters.length) = some 0 := ⟨kwt6 52 (by rfl) rfl, kwp4 9 (by rfl) rfl, kwt1 9 (by rfl) rfl, kwt6 53 (by rfl) rfl, by decide, by decide, by decide +kernel⟩
set_option maxRecDepth 100000 in
theorem cv_X8_226 : CWV "DoorWalkModel" 226 yX8_fullMany cX8_fullMany 3 (some .int) 0 := ⟨kwt6 50 (by rfl) rfl, mv_X8_fullMany⟩
set_option maxRecDepth 100000 in
theorem mv_X8_numbers : Cond.instanceMethod yX8_numbers ∈ TB ∧ Cond.selects "DoorWalkModel" yX8_numbers yX8_numbers ∈ TB ∧ Cond.initialized "DoorWalkModel" ∈ TB ∧ Cond.code yX8_numbers cX8_numbers 1 (some .int) ∈ TB ∧ "DoorWalkModel" ≠ "java/lang/invoke/MethodHandle" ∧ "DoorWalkModel" ≠ "java/lang/invoke/VarHandle" ∧ (parseMethodDescriptor "()I").map (fun d => d.parameters.length) = some 0 := ⟨kwt6 56 (by rfl) rfl, kwp4 10 (by rfl) rfl, kwt1 9 (by rfl) rfl, kwt6 57 (by rfl) rfl, by decide, by decide, by decide +kernel⟩
set_option maxRecDepth 100000 in
theorem cv_X8_210 : CWV "DoorWalkModel" 210 yX8_numbers cX8_numbers 1 (some .int) 0 := ⟨kwt6 54 (by rfl) rfl, mv_X8_numbers⟩
set_option maxRecDepth 100000 in
theorem mv_X8_turns : Cond.instanceMethod yX8_turns ∈ TB ∧ Cond.selects "DoorWalkModel" yX8_turns yX8_turns ∈ TB ∧ Cond.initialized "DoorWalkModel" ∈ TB ∧ Cond.code yX8_turns cX8_turns 3 (some .int) ∈ TB ∧ "DoorWalkModel" ≠ "java/lang/invoke/MethodHandle" ∧ "DoorWalkModel" ≠ "java/lang/invoke/VarHandle" ∧ (parseMethodDescriptor "()I").map (fun d => d.parameters.length) = some 0 := ⟨kwt6 60 (by rfl) rfl, kwp4 11 (by rfl) rfl, kwt1 9 (by rfl) rfl, kwt6 61 (by rfl) rfl, by decide, by decide, by decide +kernel⟩
set_option maxRecDepth 100000 in
theorem cv_X8_229 : CWV "DoorWalkModel" 229 yX8_turns cX8_turns 3 (some .int) 0 := ⟨kwt6 58 (by rfl) rfl, mv_X8_turns⟩
set_option maxRecDepth 100000 in
theorem mv_X8_nthFull : Cond.instanceMethod yX8_nthFull ∈ TB ∧ Cond.selects "DoorWalkModel" yX8_nthFull yX8_nthFull ∈ TB ∧ Cond.initialized "DoorWalkModel" ∈ TB ∧ Cond.code yX8_nthFull cX8_nthFull 4 (some .int) ∈ TB ∧ "DoorWalkModel" ≠ "java/lang/invoke/MethodHandle" ∧ "DoorWalkModel" ≠ "java/lang/invoke/VarHandle" ∧ (parseMethodDescriptor "(I)I").map (fun d => d.parameters.length) = some 1 := ⟨kwt6 64 (by rfl) rfl, kwp4 12 (by rfl) rfl, kwt1 9 (by rfl) rfl, kwt6 65 (by rfl) rfl, by decide, by decide, by decide +kernel⟩
set_option maxRecDepth 100000 in
theorem cv_X8_232 : CWV "DoorWalkModel" 232 yX8_nthFull cX8_nthFull 4 (some .int) 1 := ⟨kwt6 62 (by rfl) rfl, mv_X8_nthFull⟩
set_option maxRecDepth 100000 in
theorem mv_X8_nth : Cond.instanceMethod yX8_nth ∈ TB ∧ Cond.selects "DoorWalkModel" yX8_nth yX8_nth ∈ TB ∧ Cond.initialized "DoorWalkModel" ∈ TB ∧ Cond.code yX8_nth cX8_nth 3 (some .int) ∈ TB ∧ "DoorWalkModel" ≠ "java/lang/invoke/MethodHandle" ∧ "DoorWalkModel" ≠ "java/lang/invoke/VarHandle" ∧ (parseMethodDescriptor "(I)I").map (fun d => d.parameters.length) = some 1 := ⟨kwt6 67 (by rfl) rfl, kwt6 68 (by rfl) rfl, kwt1 9 (by rfl) rfl, kwt6 69 (by rfl) rfl, by decide, by decide, by decide +kernel⟩
set_option maxRecDepth 100000 in
theorem cv_L_79 : CWV "DoorWalkLaw" 79 yX8_nth cX8_nth 3 (some .int) 1 := ⟨kwt6 66 (by rfl) rfl, mv_X8_nth⟩
set_option maxRecDepth 100000 in
theorem mv_X8_with : Cond.instanceMethod yX8_with ∈ TB ∧ Cond.selects "DoorWalkModel" yX8_with yX8_with ∈ TB ∧ Cond.initialized "DoorWalkModel" ∈ TB ∧ Cond.code yX8_with cX8_with 5 (some .int) ∈ TB ∧ "DoorWalkModel" ≠ "java/lang/invoke/MethodHandle" ∧ "DoorWalkModel" ≠ "java/lang/invoke/VarHandle" ∧ (parseMethodDescriptor "(I)I").map (fun d => d.parameters.length) = some 1 := ⟨kwt6 71 (by rfl) rfl, kwt6 72 (by rfl) rfl, kwt1 9 (by rfl) rfl, kwt6 73 (by rfl) rfl, by decide, by decide, by decide +kernel⟩
set_option maxRecDepth 100000 in
theorem cv_L_83 : CWV "DoorWalkLaw" 83 yX8_with cX8_with 5 (some .int) 1 := ⟨kwt6 70 (by rfl) rfl, mv_X8_with⟩
set_option maxRecDepth 100000 in
theorem mv_X8_many : Cond.instanceMethod yX8_many ∈ TB ∧ Cond.selects "DoorWalkModel" yX8_many yX8_many ∈ TB ∧ Cond.initialized "DoorWalkModel" ∈ TB ∧ Cond.code yX8_many cX8_many 6 (some .int) ∈ TB ∧ "DoorWalkModel" ≠ "java/lang/invoke/MethodHandle" ∧ "DoorWalkModel" ≠ "java/lang/invoke/VarHandle" ∧ (parseMethodDescriptor "(I)I").map (fun d => d.parameters.length) = some 1 := ⟨kwt6 75 (by rfl) rfl, kwt6 76 (by rfl) rfl, kwt1 9 (by rfl) rfl, kwt6 77 (by rfl) rfl, by decide, by decide, by decide +kernel⟩
set_option maxRecDepth 100000 in
theorem cv_L_87 : CWV "DoorWalkLaw" 87 yX8_many cX8_many 6 (some .int) 1 := ⟨kwt6 74 (by rfl) rfl, mv_X8_many⟩
set_option maxRecDepth 100000 in
theorem mv_X8_isRim : Cond.instanceMethod yX8_isRim ∈ TB ∧ Cond.selects "DoorWalkModel" yX8_isRim yX8_isRim ∈ TB ∧ Cond.initialized "DoorWalkModel" ∈ TB ∧ Cond.code yX8_isRim cX8_isRim 3 (some .boolean) ∈ TB ∧ "DoorWalkModel" ≠ "java/lang/invoke/MethodHandle" ∧ "DoorWalkModel" ≠ "java/lang/invoke/VarHandle" ∧ (parseMethodDescriptor "(II)Z").map (fun d => d.parameters.length) = some 2 := ⟨kwt6 80 (by rfl) rfl, kwp4 13 (by rfl) rfl, kwt1 9 (by rfl) rfl, kwt6 81 (by rfl) rfl, by decide, by decide, by decide +kernel⟩
set_option maxRecDepth 100000 in
theorem cv_X8_235 : CWV "DoorWalkModel" 235 yX8_isRim cX8_isRim 3 (some .boolean) 2 := ⟨kwt6 78 (by rfl) rfl, mv_X8_isRim⟩
set_option maxRecDepth 100000 in
theorem mv_X8_outer : Cond.instanceMethod yX8_outer ∈ TB ∧ Cond.selects "DoorWalkModel" yX8_outer yX8_outer ∈ TB ∧ Cond.initialized "DoorWalkModel" ∈ TB ∧ Cond.code yX8_outer cX8_outer 3 (some .int) ∈ TB ∧ "DoorWalkModel" ≠ "java/lang/invoke/MethodHandle" ∧ "DoorWalkModel" ≠ "java/lang/invoke/VarHandle" ∧ (parseMethodDescriptor "(I)I").map (fun d => d.parameters.length) = some 1 := ⟨kwt6 83 (by rfl) rfl, kwt6 84 (by rfl) rfl, kwt1 9 (by rfl) rfl, kwt6 85 (by rfl) rfl, by decide, by decide, by decide +kernel⟩
set_option maxRecDepth 100000 in
theorem cv_L_91 : CWV "DoorWalkLaw" 91 yX8_outer cX8_outer 3 (some .int) 1 := ⟨kwt6 82 (by rfl) rfl, mv_X8_outer⟩
set_option maxRecDepth 100000 in
theorem ms_X8_isKind : Cond.static yX8_isKind ∈ TB ∧ Cond.initialized "DoorWalkModel" ∈ TB ∧ Cond.code yX8_isKind cX8_isKind 1 (some .boolean) ∈ TB ∧ "DoorWalkModel" ≠ "java/lang/invoke/MethodHandle" ∧ "DoorWalkModel" ≠ "java/lang/invoke/VarHandle" ∧ (parseMethodDescriptor "(I)Z").map (fun d => d.parameters.length) = some 1 := ⟨kwt6 87 (by rfl) rfl, kwt1 9 (by rfl) rfl, kwt6 88 (by rfl) rfl, by decide, by decide, by decide +kernel⟩
set_option maxRecDepth 100000 in
theorem cs_X8_244 : CWS "DoorWalkModel" 244 yX8_isKind cX8_isKind 1 (some .boolean) 1 := ⟨kwt6 86 (by rfl) rfl, ms_X8_isKind⟩
set_option maxRecDepth 100000 in
theorem mv_X8_layOuter : Cond.instanceMethod yX8_layOuter ∈ TB ∧ Cond.selects "DoorWalkModel" yX8_layOuter yX8_layOuter ∈ TB ∧ Cond.initialized "DoorWalkModel" ∈ TB ∧ Cond.code yX8_layOuter cX8_layOuter 5 none ∈ TB ∧ "DoorWalkModel" ≠ "java/lang/invoke/MethodHandle" ∧ "DoorWalkModel" ≠ "java/lang/invoke/VarHandle" ∧ (parseMethodDescriptor "(I)V").map (fun d => d.parameters.length) = some 1 := ⟨kwt6 91 (by rfl) rfl, kwp4 14 (by rfl) rfl, kwt1 9 (by rfl) rfl, kwt6 92 (by rfl) rfl, by decide, by decide, by decide +kernel⟩
set_option maxRecDepth 100000 in
theorem cv_X8_247 : CWV "DoorWalkModel" 247 yX8_layOuter cX8_layOuter 5 none 1 := ⟨kwt6 89 (by rfl) rfl, mv_X8_layOuter⟩
set_option maxRecDepth 100000 in
theorem mv_X8_isDoor : Cond.instanceMethod yX8_isDoor ∈ TB ∧ Cond.selects "DoorWalkModel" yX8_isDoor yX8_isDoor ∈ TB ∧ Cond.initialized "DoorWalkModel" ∈ TB ∧ Cond.code yX8_isDoor cX8_isDoor 6 (some .boolean) ∈ TB ∧ "DoorWalkModel" ≠ "java/lang/invoke/MethodHandle" ∧ "DoorWalkModel" ≠ "java/lang/invoke/VarHandle" ∧ (parseMethodDescriptor "(III)Z").map (fun d => d.parameters.length) = some 3 := ⟨kwt6 95 (by rfl) rfl, kwp4 15 (by rfl) rfl, kwt1 9 (by rfl) rfl, kwt6 96 (by rfl) rfl, by decide, by decide, by decide +kernel⟩
set_option maxRecDepth 100000 in
theorem cv_X8_238 : CWV "DoorWalkModel" 238 yX8_isDoor cX8_isDoor 6 (some .boolean) 3 := ⟨kwt6 93 (by rfl) rfl, mv_X8_isDoor⟩
set_option maxRecDepth 100000 in
theorem mv_X8_doors : Cond.instanceMethod yX8_doors ∈ TB ∧ Cond.selects "DoorWalkModel" yX8_doors yX8_doors ∈ TB ∧ Cond.initialized "DoorWalkModel" ∈ TB ∧ Cond.code yX8_doors cX8_doors 6 (some .int) ∈ TB ∧ "DoorWalkModel" ≠ "java/lang/invoke/MethodHandle" ∧ "DoorWalkModel" ≠ "java/lang/invoke/VarHandle" ∧ (parseMethodDescriptor "(I)I").map (fun d => d.parameters.length) = some 1 := ⟨kwt6 98 (by rfl) rfl, kwt6 99 (by rfl) rfl, kwt1 9 (by rfl) rfl, kwt6 100 (by rfl) rfl, by decide, by decide, by decide +kernel⟩
set_option maxRecDepth 100000 in
theorem cv_L_95 : CWV "DoorWalkLaw" 95 yX8_doors cX8_doors 6 (some .int) 1 := ⟨kwt6 97 (by rfl) rfl, mv_X8_doors⟩
set_option maxRecDepth 100000 in
theorem mv_X8_doorMany : Cond.instanceMethod yX8_doorMany ∈ TB ∧ Cond.selects "DoorWalkModel" yX8_doorMany yX8_doorMany ∈ TB ∧ Cond.initialized "DoorWalkModel" ∈ TB ∧ Cond.code yX8_doorMany cX8_doorMany 5 (some .int) ∈ TB ∧ "DoorWalkModel" ≠ "java/lang/invoke/MethodHandle" ∧ "DoorWalkModel" ≠ "java/lang/invoke/VarHandle" ∧ (parseMethodDescriptor "(II)I").map (fun d => d.parameters.length) = some 2 := ⟨kwt6 103 (by rfl) rfl, kwp5 0 (by rfl) rfl, kwt1 9 (by rfl) rfl, kwt6 104 (by rfl) rfl, by decide, by decide, by decide +kernel⟩
set_option maxRecDepth 100000 in
theorem cv_X8_250 : CWV "DoorWalkModel" 250 yX8_doorMany cX8_doorMany 5 (some .int) 2 := ⟨kwt6 101 (by rfl) rfl, mv_X8_doorMany⟩
set_option maxRecDepth 100000 in
theorem mv_X8_walk : Cond.instanceMethod yX8_walk ∈ TB ∧ Cond.selects "DoorWalkModel" yX8_walk yX8_walk ∈ TB ∧ Cond.initialized "DoorWalkModel" ∈ TB ∧ Cond.code yX8_walk cX8_walk 3 (some .int) ∈ TB ∧ "DoorWalkModel" ≠ "java/lang/invoke/MethodHandle" ∧ "DoorWalkModel" ≠ "java/lang/invoke/VarHandle" ∧ (parseMethodDescriptor "(II)I").map (fun d => d.parameters.length) = some 2 := ⟨kwt6 106 (by rfl) rfl, kwt6 107 (by rfl) rfl, kwt1 9 (by rfl) rfl, kwt6 108 (by rfl) rfl, by decide, by decide, by decide +kernel⟩
set_option maxRecDepth 100000 in
theorem cv_L_99 : CWV "DoorWalkLaw" 99 yX8_walk cX8_walk 3 (some .int) 2 := ⟨kwt6 105 (by rfl) rfl, mv_X8_walk⟩
set_option maxRecDepth 100000 in
theorem mv_X8_goWalk : Cond.instanceMethod yX8_goWalk ∈ TB ∧ Cond.selects "DoorWalkModel" yX8_goWalk yX8_goWalk ∈ TB ∧ Cond.initialized "DoorWalkModel" ∈ TB ∧ Cond.code yX8_goWalk cX8_goWalk 3 (some .boolean) ∈ TB ∧ "DoorWalkModel" ≠ "java/lang/invoke/MethodHandle" ∧ "DoorWalkModel" ≠ "java/lang/invoke/VarHandle" ∧ (parseMethodDescriptor "(II)Z").map (fun d => d.parameters.length) = some 2 := ⟨kwt6 111 (by rfl) rfl, kwp5 1 (by rfl) rfl, kwt1 9 (by rfl) rfl, kwt6 112 (by rfl) rfl, by decide, by decide, by decide +kernel⟩
set_option maxRecDepth 100000 in
theorem cv_X8_272 : CWV "DoorWalkModel" 272 yX8_goWalk cX8_goWalk 3 (some .boolean) 2 := ⟨kwt6 109 (by rfl) rfl, mv_X8_goWalk⟩
set_option maxRecDepth 100000 in
theorem mv_X8_goIn : Cond.instanceMethod yX8_goIn ∈ TB ∧ Cond.selects "DoorWalkModel" yX8_goIn yX8_goIn ∈ TB ∧ Cond.initialized "DoorWalkModel" ∈ TB ∧ Cond.code yX8_goIn cX8_goIn 8 none ∈ TB ∧ "DoorWalkModel" ≠ "java/lang/invoke/MethodHandle" ∧ "DoorWalkModel" ≠ "java/lang/invoke/VarHandle" ∧ (parseMethodDescriptor "(III)V").map (fun d => d.parameters.length) = some 3 := ⟨kwt6 115 (by rfl) rfl, kwp5 2 (by rfl) rfl, kwt1 9 (by rfl) rfl, kwt6 116 (by rfl) rfl, by decide, by decide, by decide +kernel⟩
set_option maxRecDepth 100000 in
theorem cv_X8_268 : CWV "DoorWalkModel" 268 yX8_goIn cX8_goIn 8 none 3 := ⟨kwt6 113 (by rfl) rfl, mv_X8_goIn⟩
set_option maxRecDepth 100000 in
theorem mv_X8_otherDoor : Cond.instanceMethod yX8_otherDoor ∈ TB ∧ Cond.selects "DoorWalkModel" yX8_otherDoor yX8_otherDoor ∈ TB ∧ Cond.initialized "DoorWalkModel" ∈ TB ∧ Cond.code yX8_otherDoor cX8_otherDoor 5 (some .int) ∈ TB ∧ "DoorWalkModel" ≠ "java/lang/invoke/MethodHandle" ∧ "DoorWalkModel" ≠ "java/lang/invoke/VarHandle" ∧ (parseMethodDescriptor "(III)I").map (fun d => d.parameters.length) = some 3 := ⟨kwt6 119 (by rfl) rfl, kwp5 3 (by rfl) rfl, kwt1 9 (by rfl) rfl, kwt6 120 (by rfl) rfl, by decide, by decide, by decide +kernel⟩
set_option maxRecDepth 100000 in
theorem cv_X8_259 : CWV "DoorWalkModel" 259 yX8_otherDoor cX8_otherDoor 5 (some .int) 3 := ⟨kwt6 117 (by rfl) rfl, mv_X8_otherDoor⟩
set_option maxRecDepth 100000 in
theorem mv_X8_beyond : Cond.instanceMethod yX8_beyond ∈ TB ∧ Cond.selects "DoorWalkModel" yX8_beyond yX8_beyond ∈ TB ∧ Cond.initialized "DoorWalkModel" ∈ TB ∧ Cond.code yX8_beyond cX8_beyond 9 (some .int) ∈ TB ∧ "DoorWalkModel" ≠ "java/lang/invoke/MethodHandle" ∧ "DoorWalkModel" ≠ "java/lang/invoke/VarHandle" ∧ (parseMethodDescriptor "(II)I").map (fun d => d.parameters.length) = some 2 := ⟨kwt6 123 (by rfl) rfl, kwp5 4 (by rfl) rfl, kwt1 9 (by rfl) rfl, kwt6 124 (by rfl) rfl, by decide, by decide, by decide +kernel⟩
set_option maxRecDepth 100000 in
theorem cv_X8_262 : CWV "DoorWalkModel" 262 yX8_beyond cX8_beyond 9 (some .int) 2 := ⟨kwt6 121 (by rfl) rfl, mv_X8_beyond⟩
set_option maxRecDepth 100000 in
theorem mv_X8_outerOf : Cond.instanceMethod yX8_outerOf ∈ TB ∧ Cond.selects "DoorWalkModel" yX8_outerOf yX8_outerOf ∈ TB ∧ Cond.initialized "DoorWalkModel" ∈ TB ∧ Cond.code yX8_outerOf cX8_outerOf 4 (some .int) ∈ TB ∧ "DoorWalkModel" ≠ "java/lang/invoke/MethodHandle" ∧ "DoorWalkModel" ≠ "java/lang/invoke/VarHandle" ∧ (parseMethodDescriptor "(II)I").map (fun d => d.parameters.length) = some 2 := ⟨kwt6 127 (by rfl) rfl, kwp5 5 (by rfl) rfl, kwt1 9 (by rfl) rfl, kwt6 128 (by rfl) rfl, by decide, by decide, by decide +kernel⟩
set_option maxRecDepth 100000 in
theorem cv_X8_265 : CWV "DoorWalkModel" 265 yX8_outerOf cX8_outerOf 4 (some .int) 2 := ⟨kwt6 125 (by rfl) rfl, mv_X8_outerOf⟩
set_option maxRecDepth 100000 in
theorem mv_X8_step : Cond.instanceMethod yX8_step ∈ TB ∧ Cond.selects "DoorWalkModel" yX8_step yX8_step ∈ TB ∧ Cond.initialized "DoorWalkModel" ∈ TB ∧ Cond.code yX8_step cX8_step 4 (some .int) ∈ TB ∧ "DoorWalkModel" ≠ "java/lang/invoke/MethodHandle" ∧ "DoorWalkModel" ≠ "java/lang/invoke/VarHandle" ∧ (parseMethodDescriptor "(III)I").map (fun d => d.parameters.length) = some 3 := ⟨kwt6 130 (by rfl) rfl, kwt6 131 (by rfl) rfl, kwt1 9 (by rfl) rfl, kwt6 132 (by rfl) rfl, by decide, by decide, by decide +kernel⟩
set_option maxRecDepth 100000 in
theorem cv_L_103 : CWV "DoorWalkLaw" 103 yX8_step cX8_step 4 (some .int) 3 := ⟨kwt6 129 (by rfl) rfl, mv_X8_step⟩
set_option maxRecDepth 100000 in
theorem mv_X8_from : Cond.instanceMethod yX8_from ∈ TB ∧ Cond.selects "DoorWalkModel" yX8_from yX8_from ∈ TB ∧ Cond.initialized "DoorWalkModel" ∈ TB ∧ Cond.code yX8_from cX8_from 5 (some .int) ∈ TB ∧ "DoorWalkModel" ≠ "java/lang/invoke/MethodHandle" ∧ "DoorWalkModel" ≠ "java/lang/invoke/VarHandle" ∧ (parseMethodDescriptor "(II)I").map (fun d => d.parameters.length) = some 2 := ⟨kwt6 134 (by rfl) rfl, kwt6 135 (by rfl) rfl, kwt1 9 (by rfl) rfl, kwt6 136 (by rfl) rfl, by decide, by decide, by decide +kernel⟩
set_option maxRecDepth 100000 in
theorem cv_L_107 : CWV "DoorWalkLaw" 107 yX8_from cX8_from 5 (some .int) 2 := ⟨kwt6 133 (by rfl) rfl, mv_X8_from⟩
set_option maxRecDepth 100000 in
theorem mv_X8_hidden : Cond.instanceMethod yX8_hidden ∈ TB ∧ Cond.selects "DoorWalkModel" yX8_hidden yX8_hidden ∈ TB ∧ Cond.initialized "DoorWalkModel" ∈ TB ∧ Cond.code yX8_hidden cX8_hidden 5 (some .int) ∈ TB ∧ "DoorWalkModel" ≠ "java/lang/invoke/MethodHandle" ∧ "DoorWalkModel" ≠ "java/lang/invoke/VarHandle" ∧ (parseMethodDescriptor "(I)I").map (fun d => d.parameters.length) = some 1 := ⟨kwt6 138 (by rfl) rfl, kwt6 139 (by rfl) rfl, kwt1 9 (by rfl) rfl, kwt6 140 (by rfl) rfl, by decide, by decide, by decide +kernel⟩
set_option maxRecDepth 100000 in
theorem cv_L_111 : CWV "DoorWalkLaw" 111 yX8_hidden cX8_hidden 5 (some .int) 1 := ⟨kwt6 137 (by rfl) rfl, mv_X8_hidden⟩
set_option maxRecDepth 100000 in
theorem mv_X8_clearWalks : Cond.instanceMethod yX8_clearWalks ∈ TB ∧ Cond.selects "DoorWalkModel" yX8_clearWalks yX8_clearWalks ∈ TB ∧ Cond.initialized "DoorWalkModel" ∈ TB ∧ Cond.code yX8_clearWalks cX8_clearWalks 2 none ∈ TB ∧ "DoorWalkModel" ≠ "java/lang/invoke/MethodHandle" ∧ "DoorWalkModel" ≠ "java/lang/invoke/VarHandle" ∧ (parseMethodDescriptor "()V").map (fun d => d.parameters.length) = some 0 := ⟨kwt6 143 (by rfl) rfl, kwp5 6 (by rfl) rfl, kwt1 9 (by rfl) rfl, kwt6 144 (by rfl) rfl, by decide, by decide, by decide +kernel⟩
set_option maxRecDepth 100000 in
theorem cv_X8_275 : CWV "DoorWalkModel" 275 yX8_clearWalks cX8_clearWalks 2 none 0 := ⟨kwt6 141 (by rfl) rfl, mv_X8_clearWalks⟩
set_option maxRecDepth 100000 in
theorem mv_X8_layWalks : Cond.instanceMethod yX8_layWalks ∈ TB ∧ Cond.selects "DoorWalkModel" yX8_layWalks yX8_layWalks ∈ TB ∧ Cond.initialized "DoorWalkModel" ∈ TB ∧ Cond.code yX8_layWalks cX8_layWalks 5 none ∈ TB ∧ "DoorWalkModel" ≠ "java/lang/invoke/MethodHandle" ∧ "DoorWalkModel" ≠ "java/lang/invoke/VarHandle" ∧ (parseMethodDescriptor "(I)V").map (fun d => d.parameters.length) = some 1 := ⟨kwt6 147 (by rfl) rfl, kwp5 7 (by rfl) rfl, kwt1 9 (by rfl) rfl, kwt6 148 (by rfl) rfl, by decide, by decide, by decide +kernel⟩
set_option maxRecDepth 100000 in
theorem cv_X8_278 : CWV "DoorWalkModel" 278 yX8_layWalks cX8_layWalks 5 none 1 := ⟨kwt6 145 (by rfl) rfl, mv_X8_layWalks⟩
set_option maxRecDepth 100000 in
theorem mv_X8_longest : Cond.instanceMethod yX8_longest ∈ TB ∧ Cond.selects "DoorWalkModel" yX8_longest yX8_longest ∈ TB ∧ Cond.initialized "DoorWalkModel" ∈ TB ∧ Cond.code yX8_longest cX8_longest 6 (some .int) ∈ TB ∧ "DoorWalkModel" ≠ "java/lang/invoke/MethodHandle" ∧ "DoorWalkModel" ≠ "java/lang/invoke/VarHandle" ∧ (parseMethodDescriptor "(I)I").map (fun d => d.parameters.length) = some 1 := ⟨kwt6 150 (by rfl) rfl, kwt6 151 (by rfl) rfl, kwt1 9 (by rfl) rfl, kwt6 152 (by rfl) rfl, by decide, by decide, by decide +kernel⟩
set_option maxRecDepth 100000 in
theorem cv_L_115 : CWV "DoorWalkLaw" 115 yX8_longest cX8_longest 6 (some .int) 1 := ⟨kwt6 149 (by rfl) rfl, mv_X8_longest⟩
set_option maxRecDepth 100000 in
theorem mv_X8_crossed : Cond.instanceMethod yX8_crossed ∈ TB ∧ Cond.selects "DoorWalkModel" yX8_crossed yX8_crossed ∈ TB ∧ Cond.initialized "DoorWalkModel" ∈ TB ∧ Cond.code yX8_crossed cX8_crossed 4 (some .int) ∈ TB ∧ "DoorWalkModel" ≠ "java/lang/invoke/MethodHandle" ∧ "DoorWalkModel" ≠ "java/lang/invoke/VarHandle" ∧ (parseMethodDescriptor "()I").map (fun d => d.parameters.length) = some 0 := ⟨kwt6 154 (by rfl) rfl, kwt6 155 (by rfl) rfl, kwt1 9 (by rfl) rfl, kwt6 156 (by rfl) rfl, by decide, by decide, by decide +kernel⟩
set_option maxRecDepth 100000 in
theorem cv_L_119 : CWV "DoorWalkLaw" 119 yX8_crossed cX8_crossed 4 (some .int) 0 := ⟨kwt6 153 (by rfl) rfl, mv_X8_crossed⟩
set_option maxRecDepth 100000 in
theorem mv_X8_leads : Cond.instanceMethod yX8_leads ∈ TB ∧ Cond.selects "DoorWalkModel" yX8_leads yX8_leads ∈ TB ∧ Cond.initialized "DoorWalkModel" ∈ TB ∧ Cond.code yX8_leads cX8_leads 8 (some .int) ∈ TB ∧ "DoorWalkModel" ≠ "java/lang/invoke/MethodHandle" ∧ "DoorWalkModel" ≠ "java/lang/invoke/VarHandle" ∧ (parseMethodDescriptor "(III)I").map (fun d => d.parameters.length) = some 3 := ⟨kwt6 158 (by rfl) rfl, kwt6 159 (by rfl) rfl, kwt1 9 (by rfl) rfl, kwt6 160 (by rfl) rfl, by decide, by decide, by decide +kernel⟩
set_option maxRecDepth 100000 in
theorem cv_L_123 : CWV "DoorWalkLaw" 123 yX8_leads cX8_leads 8 (some .int) 3 := ⟨kwt6 157 (by rfl) rfl, mv_X8_leads⟩
set_option maxRecDepth 100000 in
theorem mv_X8_finer : Cond.instanceMethod yX8_finer ∈ TB ∧ Cond.selects "DoorWalkModel" yX8_finer yX8_finer ∈ TB ∧ Cond.initialized "DoorWalkModel" ∈ TB ∧ Cond.code yX8_finer cX8_finer 3 (some .int) ∈ TB ∧ "DoorWalkModel" ≠ "java/lang/invoke/MethodHandle" ∧ "DoorWalkModel" ≠ "java/lang/invoke/VarHandle" ∧ (parseMethodDescriptor "(I)I").map (fun d => d.parameters.length) = some 1 := ⟨kwt6 162 (by rfl) rfl, kwt6 163 (by rfl) rfl, kwt1 9 (by rfl) rfl, kwt6 164 (by rfl) rfl, by decide, by decide, by decide +kernel⟩
set_option maxRecDepth 100000 in
theorem cv_L_127 : CWV "DoorWalkLaw" 127 yX8_finer cX8_finer 3 (some .int) 1 := ⟨kwt6 161 (by rfl) rfl, mv_X8_finer⟩
set_option maxRecDepth 100000 in
theorem mv_X8_layAside : Cond.instanceMethod yX8_layAside ∈ TB ∧ Cond.selects "DoorWalkModel" yX8_layAside yX8_layAside ∈ TB ∧ Cond.initialized "DoorWalkModel" ∈ TB ∧ Cond.code yX8_layAside cX8_layAside 2 none ∈ TB ∧ "DoorWalkModel" ≠ "java/lang/invoke/MethodHandle" ∧ "DoorWalkModel" ≠ "java/lang/invoke/VarHandle" ∧ (parseMethodDescriptor "()V").map (fun d => d.parameters.length) = some 0 := ⟨kwt6 167 (by rfl) rfl, kwp5 8 (by rfl) rfl, kwt1 9 (by rfl) rfl, kwt6 168 (by rfl) rfl, by decide, by decide, by decide +kernel⟩
set_option maxRecDepth 100000 in
theorem cv_X8_281 : CWV "DoorWalkModel" 281 yX8_layAside cX8_layAside 2 none 0 := ⟨kwt6 165 (by rfl) rfl, mv_X8_layAside⟩
set_option maxRecDepth 100000 in
theorem mv_X8_goGrid : Cond.instanceMethod yX8_goGrid ∈ TB ∧ Cond.selects "DoorWalkModel" yX8_goGrid yX8_goGrid ∈ TB ∧ Cond.initialized "DoorWalkModel" ∈ TB ∧ Cond.code yX8_goGrid cX8_goGrid 3 none ∈ TB ∧ "DoorWalkModel" ≠ "java/lang/invoke/MethodHandle" ∧ "DoorWalkModel" ≠ "java/lang/invoke/VarHandle" ∧ (parseMethodDescriptor "(I)V").map (fun d => d.parameters.length) = some 1 := ⟨kwt6 171 (by rfl) rfl, kwp5 9 (by rfl) rfl, kwt1 9 (by rfl) rfl, kwt6 172 (by rfl) rfl, by decide, by decide, by decide +kernel⟩
set_option maxRecDepth 100000 in
theorem cv_X8_284 : CWV "DoorWalkModel" 284 yX8_goGrid cX8_goGrid 3 none 1 := ⟨kwt6 169 (by rfl) rfl, mv_X8_goGrid⟩
set_option maxRecDepth 100000 in
theorem mv_X8_comesBack : Cond.instanceMethod yX8_comesBack ∈ TB ∧ Cond.selects "DoorWalkModel" yX8_comesBack yX8_comesBack ∈ TB ∧ Cond.initialized "DoorWalkModel" ∈ TB ∧ Cond.code yX8_comesBack cX8_comesBack 2 none ∈ TB ∧ "DoorWalkModel" ≠ "java/lang/invoke/MethodHandle" ∧ "DoorWalkModel" ≠ "java/lang/invoke/VarHandle" ∧ (parseMethodDescriptor "()V").map (fun d => d.parameters.length) = some 0 := ⟨kwt6 175 (by rfl) rfl, kwp5 10 (by rfl) rfl, kwt1 9 (by rfl) rfl, kwt6 176 (by rfl) rfl, by decide, by decide, by decide +kernel⟩
set_option maxRecDepth 100000 in
theorem cv_X8_287 : CWV "DoorWalkModel" 287 yX8_comesBack cX8_comesBack 2 none 0 := ⟨kwt6 173 (by rfl) rfl, mv_X8_comesBack⟩
set_option maxRecDepth 100000 in
theorem mv_X8_within : Cond.instanceMethod yX8_within ∈ TB ∧ Cond.selects "DoorWalkModel" yX8_within yX8_within ∈ TB ∧ Cond.initialized "DoorWalkModel" ∈ TB ∧ Cond.code yX8_within cX8_within 8 (some .int) ∈ TB ∧ "DoorWalkModel" ≠ "java/lang/invoke/MethodHandle" ∧ "DoorWalkModel" ≠ "java/lang/invoke/VarHandle" ∧ (parseMethodDescriptor "(I)I").map (fun d => d.parameters.length) = some 1 := ⟨kwt6 178 (by rfl) rfl, kwt6 179 (by rfl) rfl, kwt1 9 (by rfl) rfl, kwt6 180 (by rfl) rfl, by decide, by decide, by decide +kernel⟩
set_option maxRecDepth 100000 in
theorem cv_L_131 : CWV "DoorWalkLaw" 131 yX8_within cX8_within 8 (some .int) 1 := ⟨kwt6 177 (by rfl) rfl, mv_X8_within⟩
set_option maxRecDepth 100000 in
theorem ms_X8_withinOf : Cond.static yX8_withinOf ∈ TB ∧ Cond.initialized "DoorWalkModel" ∈ TB ∧ Cond.code yX8_withinOf cX8_withinOf 8 (some .int) ∈ TB ∧ "DoorWalkModel" ≠ "java/lang/invoke/MethodHandle" ∧ "DoorWalkModel" ≠ "java/lang/invoke/VarHandle" ∧ (parseMethodDescriptor "(IIZII)I").map (fun d => d.parameters.length) = some 5 := ⟨kwt6 182 (by rfl) rfl, kwt1 9 (by rfl) rfl, kwt6 183 (by rfl) rfl, by decide, by decide, by decide +kernel⟩
set_option maxRecDepth 100000 in
theorem cs_X8_290 : CWS "DoorWalkModel" 290 yX8_withinOf cX8_withinOf 8 (some .int) 5 := ⟨kwt6 181 (by rfl) rfl, ms_X8_withinOf⟩
set_option maxRecDepth 100000 in
theorem mv_X8_inner : Cond.instanceMethod yX8_inner ∈ TB ∧ Cond.selects "DoorWalkModel" yX8_inner yX8_inner ∈ TB ∧ Cond.initialized "DoorWalkModel" ∈ TB ∧ Cond.code yX8_inner cX8_inner 4 (some .int) ∈ TB ∧ "DoorWalkModel" ≠ "java/lang/invoke/MethodHandle" ∧ "DoorWalkModel" ≠ "java/lang/invoke/VarHandle" ∧ (parseMethodDescriptor "()I").map (fun d => d.parameters.length) = some 0 := ⟨kwt6 185 (by rfl) rfl, kwt6 186 (by rfl) rfl, kwt1 9 (by rfl) rfl, kwt6 187 (by rfl) rfl, by decide, by decide, by decide +kernel⟩
set_option maxRecDepth 100000 in
theorem cv_L_135 : CWV "DoorWalkLaw" 135 yX8_inner cX8_inner 4 (some .int) 0 := ⟨kwt6 184 (by rfl) rfl, mv_X8_inner⟩
set_option maxRecDepth 100000 in
theorem mv_X8_touchesRim : Cond.instanceMethod yX8_touchesRim ∈ TB ∧ Cond.selects "DoorWalkModel" yX8_touchesRim yX8_touchesRim ∈ TB ∧ Cond.initialized "DoorWalkModel" ∈ TB ∧ Cond.code yX8_touchesRim cX8_touchesRim 3 (some .boolean) ∈ TB ∧ "DoorWalkModel" ≠ "java/lang/invoke/MethodHandle" ∧ "DoorWalkModel" ≠ "java/lang/invoke/VarHandle" ∧ (parseMethodDescriptor "(I)Z").map (fun d => d.parameters.length) = some 1 := ⟨kwt6 190 (by rfl) rfl, kwp5 11 (by rfl) rfl, kwt1 9 (by rfl) rfl, kwt6 191 (by rfl) rfl, by decide, by decide, by decide +kernel⟩
set_option maxRecDepth 100000 in
theorem cv_X8_294 : CWV "DoorWalkModel" 294 yX8_touchesRim cX8_touchesRim 3 (some .boolean) 1 := ⟨kwt6 188 (by rfl) rfl, mv_X8_touchesRim⟩
set_option maxRecDepth 100000 in
theorem mv_X8_excess : Cond.instanceMethod yX8_excess ∈ TB ∧ Cond.selects "DoorWalkModel" yX8_excess yX8_excess ∈ TB ∧ Cond.initialized "DoorWalkModel" ∈ TB ∧ Cond.code yX8_excess cX8_excess 4 (some .int) ∈ TB ∧ "DoorWalkModel" ≠ "java/lang/invoke/MethodHandle" ∧ "DoorWalkModel" ≠ "java/lang/invoke/VarHandle" ∧ (parseMethodDescriptor "(II)I").map (fun d => d.parameters.length) = some 2 := ⟨kwt6 193 (by rfl) rfl, kwt6 194 (by rfl) rfl, kwt1 9 (by rfl) rfl, kwt6 195 (by rfl) rfl, by decide, by decide, by decide +kernel⟩
set_option maxRecDepth 100000 in
theorem cv_L_139 : CWV "DoorWalkLaw" 139 yX8_excess cX8_excess 4 (some .int) 2 := ⟨kwt6 192 (by rfl) rfl, mv_X8_excess⟩
set_option maxRecDepth 100000 in
theorem mv_X8_off : Cond.instanceMethod yX8_off ∈ TB ∧ Cond.selects "DoorWalkModel" yX8_off yX8_off ∈ TB ∧ Cond.initialized "DoorWalkModel" ∈ TB ∧ Cond.code yX8_off cX8_off 5 (some .int) ∈ TB ∧ "DoorWalkModel" ≠ "java/lang/invoke/MethodHandle" ∧ "DoorWalkModel" ≠ "java/lang/invoke/VarHandle" ∧ (parseMethodDescriptor "(II)I").map (fun d => d.parameters.length) = some 2 := ⟨kwt6 198 (by rfl) rfl, kwp5 12 (by rfl) rfl, kwt1 9 (by rfl) rfl, kwt6 199 (by rfl) rfl, by decide, by decide, by decide +kernel⟩
set_option maxRecDepth 100000 in
theorem cv_X8_297 : CWV "DoorWalkModel" 297 yX8_off cX8_off 5 (some .int) 2 := ⟨kwt6 196 (by rfl) rfl, mv_X8_off⟩
set_option maxRecDepth 100000 in
theorem ms_J9_abs_0f7a4 : Cond.static yJ9_abs_0f7a4 ∈ TB ∧ Cond.initialized "java/lang/Math" ∈ TB ∧ Cond.code yJ9_abs_0f7a4 cJ9_abs_0f7a4 1 (some .int) ∈ TB ∧ "java/lang/Math" ≠ "java/lang/invoke/MethodHandle" ∧ "java/lang/Math" ≠ "java/lang/invoke/VarHandle" ∧ (parseMethodDescriptor "(I)I").map (fun d => d.parameters.length) = some 1 := ⟨kwt6 201 (by rfl) rfl, kwt1 11 (by rfl) rfl, kwt6 202 (by rfl) rfl, by decide, by decide, by decide +kernel⟩
set_option maxRecDepth 100000 in
theorem cs_X8_103 : CWS "DoorWalkModel" 103 yJ9_abs_0f7a4 cJ9_abs_0f7a4 1 (some .int) 1 := ⟨kwt6 200 (by rfl) rfl, ms_J9_abs_0f7a4⟩
set_option maxRecDepth 100000 in
theorem ms_J9_max_7cf53 : Cond.static yJ9_max_7cf53 ∈ TB ∧ Cond.initialized "java/lang/Math" ∈ TB ∧ Cond.code yJ9_max_7cf53 cJ9_max_7cf53 2 (some .int) ∈ TB ∧ "java/lang/Math" ≠ "java/lang/invoke/MethodHandle" ∧ "java/lang/Math" ≠ "java/lang/invoke/VarHandle" ∧ (parseMethodDescriptor "(II)I").map (fun d => d.parameters.length) = some 2 := ⟨kwt6 204 (by rfl) rfl, kwt1 11 (by rfl) rfl, kwt6 205 (by rfl) rfl, by decide, by decide, by decide +kernel⟩
set_option maxRecDepth 100000 in
theorem cs_X8_108 : CWS "DoorWalkModel" 108 yJ9_max_7cf53 cJ9_max_7cf53 2 (some .int) 2 := ⟨kwt6 203 (by rfl) rfl, ms_J9_max_7cf53⟩
set_option maxRecDepth 100000 in
theorem mv_X8_best : Cond.instanceMethod yX8_best ∈ TB ∧ Cond.selects "DoorWalkModel" yX8_best yX8_best ∈ TB ∧ Cond.initialized "DoorWalkModel" ∈ TB ∧ Cond.code yX8_best cX8_best 3 (some .int) ∈ TB ∧ "DoorWalkModel" ≠ "java/lang/invoke/MethodHandle" ∧ "DoorWalkModel" ≠ "java/lang/invoke/VarHandle" ∧ (parseMethodDescriptor "()I").map (fun d => d.parameters.length) = some 0 := ⟨kwt6 207 (by rfl) rfl, kwt6 208 (by rfl) rfl, kwt1 9 (by rfl) rfl, kwt6 209 (by rfl) rfl, by decide, by decide, by decide +kernel⟩
set_option maxRecDepth 100000 in
theorem cv_L_143 : CWV "DoorWalkLaw" 143 yX8_best cX8_best 3 (some .int) 0 := ⟨kwt6 206 (by rfl) rfl, mv_X8_best⟩
set_option maxRecDepth 100000 in
theorem mv_X8_offAt : Cond.instanceMethod yX8_offAt ∈ TB ∧ Cond.selects "DoorWalkModel" yX8_offAt yX8_offAt ∈ TB ∧ Cond.initialized "DoorWalkModel" ∈ TB ∧ Cond.code yX8_offAt cX8_offAt 2 (some .int) ∈ TB ∧ "DoorWalkModel" ≠ "java/lang/invoke/MethodHandle" ∧ "DoorWalkModel" ≠ "java/lang/invoke/VarHandle" ∧ (parseMethodDescriptor "(I)I").map (fun d => d.parameters.length) = some 1 := ⟨kwt6 212 (by rfl) rfl, kwp5 13 (by rfl) rfl, kwt1 9 (by rfl) rfl, kwt6 213 (by rfl) rfl, by decide, by decide, by decide +kernel⟩
set_option maxRecDepth 100000 in
theorem cv_X8_300 : CWV "DoorWalkModel" 300 yX8_offAt cX8_offAt 2 (some .int) 1 := ⟨kwt6 210 (by rfl) rfl, mv_X8_offAt⟩
set_option maxRecDepth 100000 in
theorem mv_X8_clears : Cond.instanceMethod yX8_clears ∈ TB ∧ Cond.selects "DoorWalkModel" yX8_clears yX8_clears ∈ TB ∧ Cond.initialized "DoorWalkModel" ∈ TB ∧ Cond.code yX8_clears cX8_clears 5 (some .int) ∈ TB ∧ "DoorWalkModel" ≠ "java/lang/invoke/MethodHandle" ∧ "DoorWalkModel" ≠ "java/lang/invoke/VarHandle" ∧ (parseMethodDescriptor "()I").map (fun d => d.parameters.length) = some 0 := ⟨kwt6 215 (by rfl) rfl, kwt6 216 (by rfl) rfl, kwt1 9 (by rfl) rfl, kwt6 217 (by rfl) rfl, by decide, by decide, by decide +kernel⟩
set_option maxRecDepth 100000 in
theorem cv_L_147 : CWV "DoorWalkLaw" 147 yX8_clears cX8_clears 5 (some .int) 0 := ⟨kwt6 214 (by rfl) rfl, mv_X8_clears⟩
set_option maxRecDepth 100000 in
theorem mv_X8_sells : Cond.instanceMethod yX8_sells ∈ TB ∧ Cond.selects "DoorWalkModel" yX8_sells yX8_sells ∈ TB ∧ Cond.initialized "DoorWalkModel" ∈ TB ∧ Cond.code yX8_sells cX8_sells 7 (some .int) ∈ TB ∧ "DoorWalkModel" ≠ "java/lang/invoke/MethodHandle" ∧ "DoorWalkModel" ≠ "java/lang/invoke/VarHandle" ∧ (parseMethodDescriptor "(III)I").map (fun d => d.parameters.length) = some 3 := ⟨kwt6 219 (by rfl) rfl, kwt6 220 (by rfl) rfl, kwt1 9 (by rfl) rfl, kwt6 221 (by rfl) rfl, by decide, by decide, by decide +kernel⟩
set_option maxRecDepth 100000 in
theorem cv_L_151 : CWV "DoorWalkLaw" 151 yX8_sells cX8_sells 7 (some .int) 3 := ⟨kwt6 218 (by rfl) rfl, mv_X8_sells⟩
set_option maxRecDepth 100000 in
theorem mv_X8_were : Cond.instanceMethod yX8_were ∈ TB ∧ Cond.selects "DoorWalkModel" yX8_were yX8_were ∈ TB ∧ Cond.initialized "DoorWalkModel" ∈ TB ∧ Cond.code yX8_were cX8_were 9 (some .int) ∈ TB ∧ "DoorWalkModel" ≠ "java/lang/invoke/MethodHandle" ∧ "DoorWalkModel" ≠ "java/lang/invoke/VarHandle" ∧ (parseMethodDescriptor "(III)I").map (fun d => d.parameters.length) = some 3 := ⟨kwt6 223 (by rfl) rfl, kwt6 224 (by rfl) rfl, kwt1 9 (by rfl) rfl, kwt6 225 (by rfl) rfl, by decide, by decide, by decide +kernel⟩
set_option maxRecDepth 100000 in
theorem cv_L_155 : CWV "DoorWalkLaw" 155 yX8_were cX8_were 9 (some .int) 3 := ⟨kwt6 222 (by rfl) rfl, mv_X8_were⟩
set_option maxRecDepth 100000 in
theorem mv_X8_hangs : Cond.instanceMethod yX8_hangs ∈ TB ∧ Cond.selects "DoorWalkModel" yX8_hangs yX8_hangs ∈ TB ∧ Cond.initialized "DoorWalkModel" ∈ TB ∧ Cond.code yX8_hangs cX8_hangs 7 (some .int) ∈ TB ∧ "DoorWalkModel" ≠ "java/lang/invoke/MethodHandle" ∧ "DoorWalkModel" ≠ "java/lang/invoke/VarHandle" ∧ (parseMethodDescriptor "(I)I").map (fun d => d.parameters.length) = some 1 := ⟨kwt6 227 (by rfl) rfl, kwt6 228 (by rfl) rfl, kwt1 9 (by rfl) rfl, kwt6 229 (by rfl) rfl, by decide, by decide, by decide +kernel⟩
set_option maxRecDepth 100000 in
theorem cv_L_159 : CWV "DoorWalkLaw" 159 yX8_hangs cX8_hangs 7 (some .int) 1 := ⟨kwt6 226 (by rfl) rfl, mv_X8_hangs⟩
set_option maxRecDepth 100000 in
theorem mv_X8_fullBy : Cond.instanceMethod yX8_fullBy ∈ TB ∧ Cond.selects "DoorWalkModel" yX8_fullBy yX8_fullBy ∈ TB ∧ Cond.initialized "DoorWalkModel" ∈ TB ∧ Cond.code yX8_fullBy cX8_fullBy 5 (some .int) ∈ TB ∧ "DoorWalkModel" ≠ "java/lang/invoke/MethodHandle" ∧ "DoorWalkModel" ≠ "java/lang/invoke/VarHandle" ∧ (parseMethodDescriptor "(II)I").map (fun d => d.parameters.length) = some 2 := ⟨kwt6 232 (by rfl) rfl, kwp5 14 (by rfl) rfl, kwt1 9 (by rfl) rfl, kwt6 233 (by rfl) rfl, by decide, by decide, by decide +kernel⟩
set_option maxRecDepth 100000 in
theorem cv_X8_303 : CWV "DoorWalkModel" 303 yX8_fullBy cX8_fullBy 5 (some .int) 2 := ⟨kwt6 230 (by rfl) rfl, mv_X8_fullBy⟩
set_option maxRecDepth 100000 in
theorem mv_X8_lone : Cond.instanceMethod yX8_lone ∈ TB ∧ Cond.selects "DoorWalkModel" yX8_lone yX8_lone ∈ TB ∧ Cond.initialized "DoorWalkModel" ∈ TB ∧ Cond.code yX8_lone cX8_lone 6 (some .int) ∈ TB ∧ "DoorWalkModel" ≠ "java/lang/invoke/MethodHandle" ∧ "DoorWalkModel" ≠ "java/lang/invoke/VarHandle" ∧ (parseMethodDescriptor "()I").map (fun d => d.parameters.length) = some 0 := ⟨kwt6 235 (by rfl) rfl, kwt6 236 (by rfl) rfl, kwt1 9 (by rfl) rfl, kwt6 237 (by rfl) rfl, by decide, by decide, by decide +kernel⟩
set_option maxRecDepth 100000 in
theorem cv_L_163 : CWV "DoorWalkLaw" 163 yX8_lone cX8_lone 6 (some .int) 0 := ⟨kwt6 234 (by rfl) rfl, mv_X8_lone⟩
set_option maxRecDepth 100000 in
theorem mv_X8_lays : Cond.instanceMethod yX8_lays ∈ TB ∧ Cond.selects "DoorWalkModel" yX8_lays yX8_lays ∈ TB ∧ Cond.initialized "DoorWalkModel" ∈ TB ∧ Cond.code yX8_lays cX8_lays 6 (some .int) ∈ TB ∧ "DoorWalkModel" ≠ "java/lang/invoke/MethodHandle" ∧ "DoorWalkModel" ≠ "java/lang/invoke/VarHandle" ∧ (parseMethodDescriptor "(III)I").map (fun d => d.parameters.length) = some 3 := ⟨kwt6 239 (by rfl) rfl, kwt7 0 (by rfl) rfl, kwt1 9 (by rfl) rfl, kwt7 1 (by rfl) rfl, by decide, by decide, by decide +kernel⟩
set_option maxRecDepth 100000 in
theorem cv_L_167 : CWV "DoorWalkLaw" 167 yX8_lays cX8_lays 6 (some .int) 3 := ⟨kwt6 238 (by rfl) rfl, mv_X8_lays⟩
set_option maxRecDepth 100000 in
theorem mv_X8_refusesLay : Cond.instanceMethod yX8_refusesLay ∈ TB ∧ Cond.selects "DoorWalkModel" yX8_refusesLay yX8_refusesLay ∈ TB ∧ Cond.initialized "DoorWalkModel" ∈ TB ∧ Cond.code yX8_refusesLay cX8_refusesLay 4 (some .int) ∈ TB ∧ "DoorWalkModel" ≠ "java/lang/invoke/MethodHandle" ∧ "DoorWalkModel" ≠ "java/lang/invoke/VarHandle" ∧ (parseMethodDescriptor "(III)I").map (fun d => d.parameters.length) = some 3 := ⟨kwt7 4 (by rfl) rfl, kwp5 15 (by rfl) rfl, kwt1 9 (by rfl) rfl, kwt7 5 (by rfl) rfl, by decide, by decide, by decide +kernel⟩
set_option maxRecDepth 100000 in
theorem cv_X8_315 : CWV "DoorWalkModel" 315 yX8_refusesLay cX8_refusesLay 4 (some .int) 3 := ⟨kwt7 2 (by rfl) rfl, mv_X8_refusesLay⟩
set_option maxRecDepth 100000 in
theorem mv_X8_goLay : Cond.instanceMethod yX8_goLay ∈ TB ∧ Cond.selects "DoorWalkModel" yX8_goLay yX8_goLay ∈ TB ∧ Cond.initialized "DoorWalkModel" ∈ TB ∧ Cond.code yX8_goLay cX8_goLay 4 none ∈ TB ∧ "DoorWalkModel" ≠ "java/lang/invoke/MethodHandle" ∧ "DoorWalkModel" ≠ "java/lang/invoke/VarHandle" ∧ (parseMethodDescriptor "(III)V").map (fun d => d.parameters.length) = some 3 := ⟨kwt7 8 (by rfl) rfl, kwp6 0 (by rfl) rfl, kwt1 9 (by rfl) rfl, kwt7 9 (by rfl) rfl, by decide, by decide, by decide +kernel⟩
set_option maxRecDepth 100000 in
theorem cv_X8_318 : CWV "DoorWalkModel" 318 yX8_goLay cX8_goLay 4 none 3 := ⟨kwt7 6 (by rfl) rfl, mv_X8_goLay⟩
set_option maxRecDepth 100000 in
theorem mv_X8_grid : Cond.instanceMethod yX8_grid ∈ TB ∧ Cond.selects "DoorWalkModel" yX8_grid yX8_grid ∈ TB ∧ Cond.initialized "DoorWalkModel" ∈ TB ∧ Cond.code yX8_grid cX8_grid 3 (some .int) ∈ TB ∧ "DoorWalkModel" ≠ "java/lang/invoke/MethodHandle" ∧ "DoorWalkModel" ≠ "java/lang/invoke/VarHandle" ∧ (parseMethodDescriptor "(I)I").map (fun d => d.parameters.length) = some 1 := ⟨kwt7 11 (by rfl) rfl, kwt7 12 (by rfl) rfl, kwt1 9 (by rfl) rfl, kwt7 13 (by rfl) rfl, by decide, by decide, by decide +kernel⟩
set_option maxRecDepth 100000 in
theorem cv_L_171 : CWV "DoorWalkLaw" 171 yX8_grid cX8_grid 3 (some .int) 1 := ⟨kwt7 10 (by rfl) rfl, mv_X8_grid⟩
set_option maxRecDepth 100000 in
theorem mv_X8_refusesGrid : Cond.instanceMethod yX8_refusesGrid ∈ TB ∧ Cond.selects "DoorWalkModel" yX8_refusesGrid yX8_refusesGrid ∈ TB ∧ Cond.initialized "DoorWalkModel" ∈ TB ∧ Cond.code yX8_refusesGrid cX8_refusesGrid 2 (some .int) ∈ TB ∧ "DoorWalkModel" ≠ "java/lang/invoke/MethodHandle" ∧ "DoorWalkModel" ≠ "java/lang/invoke/VarHandle" ∧ (parseMethodDescriptor "(I)I").map (fun d => d.parameters.length) = some 1 := ⟨kwt7 16 (by rfl) rfl, kwp6 1 (by rfl) rfl, kwt1 9 (by rfl) rfl, kwt7 17 (by rfl) rfl, by decide, by decide, by decide +kernel⟩
set_option maxRecDepth 100000 in
theorem cv_X8_321 : CWV "DoorWalkModel" 321 yX8_refusesGrid cX8_refusesGrid 2 (some .int) 1 := ⟨kwt7 14 (by rfl) rfl, mv_X8_refusesGrid⟩
set_option maxRecDepth 100000 in
theorem mv_X8_swaps : Cond.instanceMethod yX8_swaps ∈ TB ∧ Cond.selects "DoorWalkModel" yX8_swaps yX8_swaps ∈ TB ∧ Cond.initialized "DoorWalkModel" ∈ TB ∧ Cond.code yX8_swaps cX8_swaps 6 (some .int) ∈ TB ∧ "DoorWalkModel" ≠ "java/lang/invoke/MethodHandle" ∧ "DoorWalkModel" ≠ "java/lang/invoke/VarHandle" ∧ (parseMethodDescriptor "(IIII)I").map (fun d => d.parameters.length) = some 4 := ⟨kwt7 19 (by rfl) rfl, kwt7 20 (by rfl) rfl, kwt1 9 (by rfl) rfl, kwt7 21 (by rfl) rfl, by decide, by decide, by decide +kernel⟩
set_option maxRecDepth 100000 in
theorem cv_L_176 : CWV "DoorWalkLaw" 176 yX8_swaps cX8_swaps 6 (some .int) 4 := ⟨kwt7 18 (by rfl) rfl, mv_X8_swaps⟩
set_option maxRecDepth 100000 in
theorem mv_X8_refusesSwap : Cond.instanceMethod yX8_refusesSwap ∈ TB ∧ Cond.selects "DoorWalkModel" yX8_refusesSwap yX8_refusesSwap ∈ TB ∧ Cond.initialized "DoorWalkModel" ∈ TB ∧ Cond.code yX8_refusesSwap cX8_refusesSwap 7 (some .int) ∈ TB ∧ "DoorWalkModel" ≠ "java/lang/invoke/MethodHandle" ∧ "DoorWalkModel" ≠ "java/lang/invoke/VarHandle" ∧ (parseMethodDescriptor "(IIII)I").map (fun d => d.parameters.length) = some 4 := ⟨kwt7 24 (by rfl) rfl, kwp6 2 (by rfl) rfl, kwt1 9 (by rfl) rfl, kwt7 25 (by rfl) rfl, by decide, by decide, by decide +kernel⟩
set_option maxRecDepth 100000 in
theorem cv_X8_324 : CWV "DoorWalkModel" 324 yX8_refusesSwap cX8_refusesSwap 7 (some .int) 4 := ⟨kwt7 22 (by rfl) rfl, mv_X8_refusesSwap⟩
set_option maxRecDepth 100000 in
theorem mv_X8_goSwap : Cond.instanceMethod yX8_goSwap ∈ TB ∧ Cond.selects "DoorWalkModel" yX8_goSwap yX8_goSwap ∈ TB ∧ Cond.initialized "DoorWalkModel" ∈ TB ∧ Cond.code yX8_goSwap cX8_goSwap 6 none ∈ TB ∧ "DoorWalkModel" ≠ "java/lang/invoke/MethodHandle" ∧ "DoorWalkModel" ≠ "java/lang/invoke/VarHandle" ∧ (parseMethodDescriptor "(IIII)V").map (fun d => d.parameters.length) = some 4 := ⟨kwt7 28 (by rfl) rfl, kwp6 3 (by rfl) rfl, kwt1 9 (by rfl) rfl, kwt7 29 (by rfl) rfl, by decide, by decide, by decide +kernel⟩
set_option maxRecDepth 100000 in
theorem cv_X8_327 : CWV "DoorWalkModel" 327 yX8_goSwap cX8_goSwap 6 none 4 := ⟨kwt7 26 (by rfl) rfl, mv_X8_goSwap⟩
set_option maxRecDepth 100000 in
theorem mv_X8_amounts : Cond.instanceMethod yX8_amounts ∈ TB ∧ Cond.selects "DoorWalkModel" yX8_amounts yX8_amounts ∈ TB ∧ Cond.initialized "DoorWalkModel" ∈ TB ∧ Cond.code yX8_amounts cX8_amounts 6 (some .int) ∈ TB ∧ "DoorWalkModel" ≠ "java/lang/invoke/MethodHandle" ∧ "DoorWalkModel" ≠ "java/lang/invoke/VarHandle" ∧ (parseMethodDescriptor "(III)I").map (fun d => d.parameters.length) = some 3 := ⟨kwt7 31 (by rfl) rfl, kwt7 32 (by rfl) rfl, kwt1 9 (by rfl) rfl, kwt7 33 (by rfl) rfl, by decide, by decide, by decide +kernel⟩
set_option maxRecDepth 100000 in
theorem cv_L_180 : CWV "DoorWalkLaw" 180 yX8_amounts cX8_amounts 6 (some .int) 3 := ⟨kwt7 30 (by rfl) rfl, mv_X8_amounts⟩
set_option maxRecDepth 100000 in
theorem mv_X8_refusesAmount : Cond.instanceMethod yX8_refusesAmount ∈ TB ∧ Cond.selects "DoorWalkModel" yX8_refusesAmount yX8_refusesAmount ∈ TB ∧ Cond.initialized "DoorWalkModel" ∈ TB ∧ Cond.code yX8_refusesAmount cX8_refusesAmount 4 (some .int) ∈ TB ∧ "DoorWalkModel" ≠ "java/lang/invoke/MethodHandle" ∧ "DoorWalkModel" ≠ "java/lang/invoke/VarHandle" ∧ (parseMethodDescriptor "(III)I").map (fun d => d.parameters.length) = some 3 := ⟨kwt7 36 (by rfl) rfl, kwp6 4 (by rfl) rfl, kwt1 9 (by rfl) rfl, kwt7 37 (by rfl) rfl, by decide, by decide, by decide +kernel⟩
set_option maxRecDepth 100000 in
theorem cv_X8_331 : CWV "DoorWalkModel" 331 yX8_refusesAmount cX8_refusesAmount 4 (some .int) 3 := ⟨kwt7 34 (by rfl) rfl, mv_X8_refusesAmount⟩
set_option maxRecDepth 100000 in
theorem mv_X8_goAmount : Cond.instanceMethod yX8_goAmount ∈ TB ∧ Cond.selects "DoorWalkModel" yX8_goAmount yX8_goAmount ∈ TB ∧ Cond.initialized "DoorWalkModel" ∈ TB ∧ Cond.code yX8_goAmount cX8_goAmount 4 none ∈ TB ∧ "DoorWalkModel" ≠ "java/lang/invoke/MethodHandle" ∧ "DoorWalkModel" ≠ "java/lang/invoke/VarHandle" ∧ (parseMethodDescriptor "(III)V").map (fun d => d.parameters.length) = some 3 := ⟨kwt7 40 (by rfl) rfl, kwp6 5 (by rfl) rfl, kwt1 9 (by rfl) rfl, kwt7 41 (by rfl) rfl, by decide, by decide, by decide +kernel⟩
set_option maxRecDepth 100000 in
theorem cv_X8_334 : CWV "DoorWalkModel" 334 yX8_goAmount cX8_goAmount 4 none 3 := ⟨kwt7 38 (by rfl) rfl, mv_X8_goAmount⟩
set_option maxRecDepth 100000 in
theorem mv_X8_day : Cond.instanceMethod yX8_day ∈ TB ∧ Cond.selects "DoorWalkModel" yX8_day yX8_day ∈ TB ∧ Cond.initialized "DoorWalkModel" ∈ TB ∧ Cond.code yX8_day cX8_day 3 (some .int) ∈ TB ∧ "DoorWalkModel" ≠ "java/lang/invoke/MethodHandle" ∧ "DoorWalkModel" ≠ "java/lang/invoke/VarHandle" ∧ (parseMethodDescriptor "()I").map (fun d => d.parameters.length) = some 0 := ⟨kwt7 43 (by rfl) rfl, kwt7 44 (by rfl) rfl, kwt1 9 (by rfl) rfl, kwt7 45 (by rfl) rfl, by decide, by decide, by decide +kernel⟩
set_option maxRecDepth 100000 in
theorem cv_L_184 : CWV "DoorWalkLaw" 184 yX8_day cX8_day 3 (some .int) 0 := ⟨kwt7 42 (by rfl) rfl, mv_X8_day⟩
set_option maxRecDepth 100000 in
theorem mv_X8_readAct : Cond.instanceMethod yX8_readAct ∈ TB ∧ Cond.selects "DoorWalkModel" yX8_readAct yX8_readAct ∈ TB ∧ Cond.initialized "DoorWalkModel" ∈ TB ∧ Cond.code yX8_readAct cX8_readAct 5 none ∈ TB ∧ "DoorWalkModel" ≠ "java/lang/invoke/MethodHandle" ∧ "DoorWalkModel" ≠ "java/lang/invoke/VarHandle" ∧ (parseMethodDescriptor "(I)V").map (fun d => d.parameters.length) = some 1 := ⟨kwt7 48 (by rfl) rfl, kwp6 6 (by rfl) rfl, kwt1 9 (by rfl) rfl, kwt7 49 (by rfl) rfl, by decide, by decide, by decide +kernel⟩
set_option maxRecDepth 100000 in
theorem cv_X8_337 : CWV "DoorWalkModel" 337 yX8_readAct cX8_readAct 5 none 1 := ⟨kwt7 46 (by rfl) rfl, mv_X8_readAct⟩
set_option maxRecDepth 100000 in
theorem mv_X8_act : Cond.instanceMethod yX8_act ∈ TB ∧ Cond.selects "DoorWalkModel" yX8_act yX8_act ∈ TB ∧ Cond.initialized "DoorWalkModel" ∈ TB ∧ Cond.code yX8_act cX8_act 6 (some .boolean) ∈ TB ∧ "DoorWalkModel" ≠ "java/lang/invoke/MethodHandle" ∧ "DoorWalkModel" ≠ "java/lang/invoke/VarHandle" ∧ (parseMethodDescriptor "(I)Z").map (fun d => d.parameters.length) = some 1 := ⟨kwt7 52 (by rfl) rfl, kwp6 7 (by rfl) rfl, kwt1 9 (by rfl) rfl, kwt7 53 (by rfl) rfl, by decide, by decide, by decide +kernel⟩
set_option maxRecDepth 100000 in
theorem cv_X8_340 : CWV "DoorWalkModel" 340 yX8_act cX8_act 6 (some .boolean) 1 := ⟨kwt7 50 (by rfl) rfl, mv_X8_act⟩
set_option maxRecDepth 100000 in
theorem mv_X8_undo : Cond.instanceMethod yX8_undo ∈ TB ∧ Cond.selects "DoorWalkModel" yX8_undo yX8_undo ∈ TB ∧ Cond.initialized "DoorWalkModel" ∈ TB ∧ Cond.code yX8_undo cX8_undo 2 (some .int) ∈ TB ∧ "DoorWalkModel" ≠ "java/lang/invoke/MethodHandle" ∧ "DoorWalkModel" ≠ "java/lang/invoke/VarHandle" ∧ (parseMethodDescriptor "()I").map (fun d => d.parameters.length) = some 0 := ⟨kwt7 55 (by rfl) rfl, kwt7 56 (by rfl) rfl, kwt1 9 (by rfl) rfl, kwt7 57 (by rfl) rfl, by decide, by decide, by decide +kernel⟩
set_option maxRecDepth 100000 in
theorem cv_L_188 : CWV "DoorWalkLaw" 188 yX8_undo cX8_undo 2 (some .int) 0 := ⟨kwt7 54 (by rfl) rfl, mv_X8_undo⟩
set_option maxRecDepth 100000 in
theorem mv_X8_years : Cond.instanceMethod yX8_years ∈ TB ∧ Cond.selects "DoorWalkModel" yX8_years yX8_years ∈ TB ∧ Cond.initialized "DoorWalkModel" ∈ TB ∧ Cond.code yX8_years cX8_years 6 (some .int) ∈ TB ∧ "DoorWalkModel" ≠ "java/lang/invoke/MethodHandle" ∧ "DoorWalkModel" ≠ "java/lang/invoke/VarHandle" ∧ (parseMethodDescriptor "(II)I").map (fun d => d.parameters.length) = some 2 := ⟨kwt7 59 (by rfl) rfl, kwt7 60 (by rfl) rfl, kwt1 9 (by rfl) rfl, kwt7 61 (by rfl) rfl, by decide, by decide, by decide +kernel⟩
set_option maxRecDepth 100000 in
theorem cv_L_192 : CWV "DoorWalkLaw" 192 yX8_years cX8_years 6 (some .int) 2 := ⟨kwt7 58 (by rfl) rfl, mv_X8_years⟩
set_option maxRecDepth 100000 in
theorem mv_X8_draw : Cond.instanceMethod yX8_draw ∈ TB ∧ Cond.selects "DoorWalkModel" yX8_draw yX8_draw ∈ TB ∧ Cond.initialized "DoorWalkModel" ∈ TB ∧ Cond.code yX8_draw cX8_draw 2 (some .int) ∈ TB ∧ "DoorWalkModel" ≠ "java/lang/invoke/MethodHandle" ∧ "DoorWalkModel" ≠ "java/lang/invoke/VarHandle" ∧ (parseMethodDescriptor "(I)I").map (fun d => d.parameters.length) = some 1 := ⟨kwt7 64 (by rfl) rfl, kwp6 8 (by rfl) rfl, kwt1 9 (by rfl) rfl, kwt7 65 (by rfl) rfl, by decide, by decide, by decide +kernel⟩
set_option maxRecDepth 100000 in
theorem cv_X8_347 : CWV "DoorWalkModel" 347 yX8_draw cX8_draw 2 (some .int) 1 := ⟨kwt7 62 (by rfl) rfl, mv_X8_draw⟩
set_option maxRecDepth 100000 in
theorem mv_X8_keep : Cond.instanceMethod yX8_keep ∈ TB ∧ Cond.selects "DoorWalkModel" yX8_keep yX8_keep ∈ TB ∧ Cond.initialized "DoorWalkModel" ∈ TB ∧ Cond.code yX8_keep cX8_keep 3 (some .boolean) ∈ TB ∧ "DoorWalkModel" ≠ "java/lang/invoke/MethodHandle" ∧ "DoorWalkModel" ≠ "java/lang/invoke/VarHandle" ∧ (parseMethodDescriptor "(I)Z").map (fun d => d.parameters.length) = some 1 := ⟨kwt7 68 (by rfl) rfl, kwt7 69 (by rfl) rfl, kwt1 9 (by rfl) rfl, kwt7 70 (by rfl) rfl, by decide, by decide, by decide +kernel⟩
set_option maxRecDepth 100000 in
theorem cv_L_196 : CWV "DoorWalkLaw" 196 yX8_keep cX8_keep 3 (some .boolean) 1 := ⟨kwt7 67 (by rfl) rfl, mv_X8_keep⟩
set_option maxRecDepth 100000 in
theorem mv_X8_again : Cond.instanceMethod yX8_again ∈ TB ∧ Cond.selects "DoorWalkModel" yX8_again yX8_again ∈ TB ∧ Cond.initialized "DoorWalkModel" ∈ TB ∧ Cond.code yX8_again cX8_again 3 (some .boolean) ∈ TB ∧ "DoorWalkModel" ≠ "java/lang/invoke/MethodHandle" ∧ "DoorWalkModel" ≠ "java/lang/invoke/VarHandle" ∧ (parseMethodDescriptor "(I)Z").map (fun d => d.parameters.length) = some 1 := ⟨kwt7 72 (by rfl) rfl, kwt7 73 (by rfl) rfl, kwt1 9 (by rfl) rfl, kwt7 74 (by rfl) rfl, by decide, by decide, by decide +kernel⟩
set_option maxRecDepth 100000 in
theorem cv_L_200 : CWV "DoorWalkLaw" 200 yX8_again cX8_again 3 (some .boolean) 1 := ⟨kwt7 71 (by rfl) rfl, mv_X8_again⟩
set_option maxRecDepth 100000 in
theorem mv_X8_count : Cond.instanceMethod yX8_count ∈ TB ∧ Cond.selects "DoorWalkModel" yX8_count yX8_count ∈ TB ∧ Cond.initialized "DoorWalkModel" ∈ TB ∧ Cond.code yX8_count cX8_count 2 (some .int) ∈ TB ∧ "DoorWalkModel" ≠ "java/lang/invoke/MethodHandle" ∧ "DoorWalkModel" ≠ "java/lang/invoke/VarHandle" ∧ (parseMethodDescriptor "(I)I").map (fun d => d.parameters.length) = some 1 := ⟨kwt7 76 (by rfl) rfl, kwt7 77 (by rfl) rfl, kwt1 9 (by rfl) rfl, kwt7 78 (by rfl) rfl, by decide, by decide, by decide +kernel⟩
set_option maxRecDepth 100000 in
theorem cv_L_204 : CWV "DoorWalkLaw" 204 yX8_count cX8_count 2 (some .int) 1 := ⟨kwt7 75 (by rfl) rfl, mv_X8_count⟩
set_option maxRecDepth 100000 in
theorem mv_X8_row : Cond.instanceMethod yX8_row ∈ TB ∧ Cond.selects "DoorWalkModel" yX8_row yX8_row ∈ TB ∧ Cond.initialized "DoorWalkModel" ∈ TB ∧ Cond.code yX8_row cX8_row 2 (some .long) ∈ TB ∧ "DoorWalkModel" ≠ "java/lang/invoke/MethodHandle" ∧ "DoorWalkModel" ≠ "java/lang/invoke/VarHandle" ∧ (parseMethodDescriptor "(I)J").map (fun d => d.parameters.length) = some 1 := ⟨kwt7 80 (by rfl) rfl, kwt7 81 (by rfl) rfl, kwt1 9 (by rfl) rfl, kwt7 82 (by rfl) rfl, by decide, by decide, by decide +kernel⟩
set_option maxRecDepth 100000 in
theorem cv_L_208 : CWV "DoorWalkLaw" 208 yX8_row cX8_row 2 (some .long) 1 := ⟨kwt7 79 (by rfl) rfl, mv_X8_row⟩
section WWF
variable {p : Program} {l : Launch} {e : Env} {R : Room} {s : State} {m : MethodId} {args : Array Value} {below : List Frame} {meth : Method} {c : Code} {Q : State → Prop} {cells slots : Nat} {cc : ByteArray} {nL : Nat} {own : String} {D : va_G} {k : Nat → ClassId} {A : Nat → Prop} {ws ws' : va_W} {lv lv' : List (Nat × Value)} {pc tgt : Nat} {st : List Value}
theorem gf0_0 (C : CX p s m args c cc nL own D k A) {index a : Nat} {fs : List Value} {v : Value} (hk : Cond.fieldLink own index "DoorWalk$Doors" "way" "[I" ∈ TB) (q0 : Nat) (hq : ws[q0]? = some (a, .inr (0, fs))) (hv : fs[0]? = some v) (hd : decode cc pc = .ok (.getfield index, 3)) (kk : WW p l e R s m args below meth c Q nL D A cells slots ws lv (pc + 3) (v :: st)) : WW p l e R s m args below meth c Q nL D A cells slots ws lv (pc) (.ref a :: st) := fun H locs ls hP hD hS hl => va_get (D := D) (ci := 0) (v := v) (C := RX0) (T := TX0) (N := 5) C.1 C.2.1 C.2.2.2.2.1 inX0 C.2.2.2.1 C.2.2.2.2.2.1 hP q0 hq rfl 0 (by decide) (C.2.2.2.2.1 _ hk) (fun _ h9 => h9) hv hd (kk H locs ls hP hD hS hl)
theorem gf0_1 (C : CX p s m args c cc nL own D k A) {index a : Nat} {fs : List Value} {v : Value} (hk : Cond.fieldLink own index "DoorWalk$Doors" "seen" "[I" ∈ TB) (q0 : Nat) (hq : ws[q0]? = some (a, .inr (0, fs))) (hv : fs[1]? = some v) (hd : decode cc pc = .ok (.getfield index, 3)) (kk : WW p l e R s m args below meth c Q nL D A cells slots ws lv (pc + 3) (v :: st)) : WW p l e R s m args below meth c Q nL D A cells slots ws lv (pc) (.ref a :: st) := fun H locs ls hP hD hS hl => va_get (D := D) (ci := 0) (v := v) (C := RX0) (T := TX0) (N := 5) C.1 C.2.1 C.2.2.2.2.1 inX0 C.2.2.2.1 C.2.2.2.2.2.1 hP q0 hq rfl 1 (by decide) (C.2.2.2.2.1 _ hk) (fun _ h9 => h9) hv hd (kk H locs ls hP hD hS hl)
theorem gf0_2 (C : CX p s m args c cc nL own D k A) {index a : Nat} {fs : List Value} {v : Value} (hk : Cond.fieldLink own index "DoorWalk$Doors" "length" "I" ∈ TB) (q0 : Nat) (hq : ws[q0]? = some (a, .inr (0, fs))) (hv : fs[2]? = some v) (hd : decode cc pc = .ok (.getfield index, 3)) (kk : WW p l e R s m args below meth c Q nL D A cells slots ws lv (pc + 3) (v :: st)) : WW p l e R s m args below meth c Q nL D A cells slots ws lv (pc) (.ref a :: st) := fun H locs ls hP hD hS hl => va_get (D := D) (ci := 0) (v := v) (C := RX0) (T := TX0) (N := 5) C.1 C.2.1 C.2.2.2.2.1 inX0 C.2.2.2.1 C.2.2.2.2.2.1 hP q0 hq rfl 2 (by decide) (C.2.2.2.2.1 _ hk) (fun _ h9 => h9) hv hd (kk H locs ls hP hD hS hl)
theorem pf0_2 (C : CX p s m args c cc nL own D k A) {index a : Nat} {fs : List Value} {x : Int32} (hk : Cond.fieldLink own index "DoorWalk$Doors" "length" "I" ∈ TB) (q0 : Nat) (hq : ws[q0]? = some (a, .inr (0, fs))) (hl2 : 2 < fs.length) (hs : ws.set q0 (a, .inr (0, fs.set 2 (.int x))) = ws') (hd : decode cc pc = .ok (.putfield index, 3)) (kk : WW p l e R s m args below meth c Q nL D A cells slots ws' lv (pc + 3) (st)) : WW p l e R s m args below meth c Q nL D A cells slots ws lv (pc) (.int x :: .ref a :: st) := by
  subst hs
  exact fun H locs ls hP hD hS hl => va_put (D := D) (ci := 0) (v := .int x) (ty := .int) (C := RX0) (T := TX0) (N := 5) C.1 C.2.1 C.2.2.2.2.1 inX0 tyX0 tyX0_ok nmX0 C.2.2.2.1 C.2.2.2.2.2.1 hP hD hS q0 hq rfl 2 (by decide) (C.2.2.2.2.1 _ hk) (fun _ h9 => h9) rfl (by decide +kernel) rfl rfl hl2 hd (fun H1 locs1 hP hD hS => kk H1 locs1 ls hP hD hS hl)
theorem gf0_3 (C : CX p s m args c cc nL own D k A) {index a : Nat} {fs : List Value} {v : Value} (hk : Cond.fieldLink own index "DoorWalk$Doors" "cameOut" "Z" ∈ TB) (q0 : Nat) (hq : ws[q0]? = some (a, .inr (0, fs))) (hv : fs[3]? = some v) (hd : decode cc pc = .ok (.getfield index, 3)) (kk : WW p l e R s m args below meth c Q nL D A cells slots ws lv (pc + 3) (v :: st)) : WW p l e R s m args below meth c Q nL D A cells slots ws lv (pc) (.ref a :: st) := fun H locs ls hP hD hS hl => va_get (D := D) (ci := 0) (v := v) (C := RX0) (T := TX0) (N := 5) C.1 C.2.1 C.2.2.2.2.1 inX0 C.2.2.2.1 C.2.2.2.2.2.1 hP q0 hq rfl 3 (by decide) (C.2.2.2.2.1 _ hk) (fun _ h9 => h9) hv hd (kk H locs ls hP hD hS hl)
theorem pf0_3 (C : CX p s m args c cc nL own D k A) {index a : Nat} {fs : List Value} {x : Int32} (hk : Cond.fieldLink own index "DoorWalk$Doors" "cameOut" "Z" ∈ TB) (q0 : Nat) (hq : ws[q0]? = some (a, .inr (0, fs))) (hl2 : 3 < fs.length) (hn : narrow .boolean (.int x) = .int x) (hfit : fits .boolean (.int x) = true) (hs : ws.set q0 (a, .inr (0, fs.set 3 (.int x))) = ws') (hd : decode cc pc = .ok (.putfield index, 3)) (kk : WW p l e R s m args below meth c Q nL D A cells slots ws' lv (pc + 3) (st)) : WW p l e R s m args below meth c Q nL D A cells slots ws lv (pc) (.int x :: .ref a :: st) := by
  subst hs
  exact fun H locs ls hP hD hS hl => va_put (D := D) (ci := 0) (v := .int x) (ty := .boolean) (C := RX0) (T := TX0) (N := 5) C.1 C.2.1 C.2.2.2.2.1 inX0 tyX0 tyX0_ok nmX0 C.2.2.2.1 C.2.2.2.2.2.1 hP hD hS q0 hq rfl 3 (by decide) (C.2.2.2.2.1 _ hk) (fun _ h9 => h9) rfl (by decide +kernel) hn hfit hl2 hd (fun H1 locs1 hP hD hS => kk H1 locs1 ls hP hD hS hl)
theorem gf0_4 (C : CX p s m args c cc nL own D k A) {index a : Nat} {fs : List Value} {v : Value} (hk : Cond.fieldLink own index "DoorWalk$Doors" "longest" "I" ∈ TB) (q0 : Nat) (hq : ws[q0]? = some (a, .inr (0, fs))) (hv : fs[4]? = some v) (hd : decode cc pc = .ok (.getfield index, 3)) (kk : WW p l e R s m args below meth c Q nL D A cells slots ws lv (pc + 3) (v :: st)) : WW p l e R s m args below meth c Q nL D A cells slots ws lv (pc) (.ref a :: st) := fun H locs ls hP hD hS hl => va_get (D := D) (ci := 0) (v := v) (C := RX0) (T := TX0) (N := 5) C.1 C.2.1 C.2.2.2.2.1 inX0 C.2.2.2.1 C.2.2.2.2.2.1 hP q0 hq rfl 4 (by decide) (C.2.2.2.2.1 _ hk) (fun _ h9 => h9) hv hd (kk H locs ls hP hD hS hl)
theorem pf0_4 (C : CX p s m args c cc nL own D k A) {index a : Nat} {fs : List Value} {x : Int32} (hk : Cond.fieldLink own index "DoorWalk$Doors" "longest" "I" ∈ TB) (q0 : Nat) (hq : ws[q0]? = some (a, .inr (0, fs))) (hl2 : 4 < fs.length) (hs : ws.set q0 (a, .inr (0, fs.set 4 (.int x))) = ws') (hd : decode cc pc = .ok (.putfield index, 3)) (kk : WW p l e R s m args below meth c Q nL D A cells slots ws' lv (pc + 3) (st)) : WW p l e R s m args below meth c Q nL D A cells slots ws lv (pc) (.int x :: .ref a :: st) := by
  subst hs
  exact fun H locs ls hP hD hS hl => va_put (D := D) (ci := 0) (v := .int x) (ty := .int) (C := RX0) (T := TX0) (N := 5) C.1 C.2.1 C.2.2.2.2.1 inX0 tyX0 tyX0_ok nmX0 C.2.2.2.1 C.2.2.2.2.2.1 hP hD hS q0 hq rfl 4 (by decide) (C.2.2.2.2.1 _ hk) (fun _ h9 => h9) rfl (by decide +kernel) rfl rfl hl2 hd (fun H1 locs1 hP hD hS => kk H1 locs1 ls hP hD hS hl)
theorem gf1_0 (C : CX p s m args c cc nL own D k A) {index a : Nat} {fs : List Value} {v : Value} (hk : Cond.fieldLink own index "DoorWalk$Grid" "marks" "[I" ∈ TB) (q0 : Nat) (hq : ws[q0]? = some (a, .inr (1, fs))) (hv : fs[0]? = some v) (hd : decode cc pc = .ok (.getfield index, 3)) (kk : WW p l e R s m args below meth c Q nL D A cells slots ws lv (pc + 3) (v :: st)) : WW p l e R s m args below meth c Q nL D A cells slots ws lv (pc) (.ref a :: st) := fun H locs ls hP hD hS hl => va_get (D := D) (ci := 1) (v := v) (C := RX1) (T := TX1) (N := 6) C.1 C.2.1 C.2.2.2.2.1 inX1 C.2.2.2.1 C.2.2.2.2.2.1 hP q0 hq rfl 0 (by decide) (C.2.2.2.2.1 _ hk) (fun _ h9 => h9) hv hd (kk H locs ls hP hD hS hl)
theorem gf1_1 (C : CX p s m args c cc nL own D k A) {index a : Nat} {fs : List Value} {v : Value} (hk : Cond.fieldLink own index "DoorWalk$Grid" "size" "I" ∈ TB) (q0 : Nat) (hq : ws[q0]? = some (a, .inr (1, fs))) (hv : fs[1]? = some v) (hd : decode cc pc = .ok (.getfield index, 3)) (kk : WW p l e R s m args below meth c Q nL D A cells slots ws lv (pc + 3) (v :: st)) : WW p l e R s m args below meth c Q nL D A cells slots ws lv (pc) (.ref a :: st) := fun H locs ls hP hD hS hl => va_get (D := D) (ci := 1) (v := v) (C := RX1) (T := TX1) (N := 6) C.1 C.2.1 C.2.2.2.2.1 inX1 C.2.2.2.1 C.2.2.2.2.2.1 hP q0 hq rfl 1 (by decide) (C.2.2.2.2.1 _ hk) (fun _ h9 => h9) hv hd (kk H locs ls hP hD hS hl)
theorem pf1_1 (C : CX p s m args c cc nL own D k A) {index a : Nat} {fs : List Value} {x : Int32} (hk : Cond.fieldLink own index "DoorWalk$Grid" "size" "I" ∈ TB) (q0 : Nat) (hq : ws[q0]? = some (a, .inr (1, fs))) (hl2 : 1 < fs.length) (hs : ws.set q0 (a, .inr (1, fs.set 1 (.int x))) = ws') (hd : decode cc pc = .ok (.putfield index, 3)) (kk : WW p l e R s m args below meth c Q nL D A cells slots ws' lv (pc + 3) (st)) : WW p l e R s m args below meth c Q nL D A cells slots ws lv (pc) (.int x :: .ref a :: st) := by
  subst hs
  exact fun H locs ls hP hD hS hl => va_put (D := D) (ci := 1) (v := .int x) (ty := .int) (C := RX1) (T := TX1) (N := 6) C.1 C.2.1 C.2.2.2.2.1 inX1 tyX1 tyX1_ok nmX1 C.2.2.2.1 C.2.2.2.2.2.1 hP hD hS q0 hq rfl 1 (by decide) (C.2.2.2.2.1 _ hk) (fun _ h9 => h9) rfl (by decide +kernel) rfl rfl hl2 hd (fun H1 locs1 hP hD hS => kk H1 locs1 ls hP hD hS hl)
theorem gf1_2 (C : CX p s m args c cc nL own D k A) {index a : Nat} {fs : List Value} {v : Value} (hk : Cond.fieldLink own index "DoorWalk$Grid" "full" "I" ∈ TB) (q0 : Nat) (hq : ws[q0]? = some (a, .inr (1, fs))) (hv : fs[2]? = some v) (hd : decode cc pc = .ok (.getfield index, 3)) (kk : WW p l e R s m args below meth c Q nL D A cells slots ws lv (pc + 3) (v :: st)) : WW p l e R s m args below meth c Q nL D A cells slots ws lv (pc) (.ref a :: st) := fun H locs ls hP hD hS hl => va_get (D := D) (ci := 1) (v := v) (C := RX1) (T := TX1) (N := 6) C.1 C.2.1 C.2.2.2.2.1 inX1 C.2.2.2.1 C.2.2.2.2.2.1 hP q0 hq rfl 2 (by decide) (C.2.2.2.2.1 _ hk) (fun _ h9 => h9) hv hd (kk H locs ls hP hD hS hl)
theorem pf1_2 (C : CX p s m args c cc nL own D k A) {index a : Nat} {fs : List Value} {x : Int32} (hk : Cond.fieldLink own index "DoorWalk$Grid" "full" "I" ∈ TB) (q0 : Nat) (hq : ws[q0]? = some (a, .inr (1, fs))) (hl2 : 2 < fs.length) (hs : ws.set q0 (a, .inr (1, fs.set 2 (.int x))) = ws') (hd : decode cc pc = .ok (.putfield index, 3)) (kk : WW p l e R s m args below meth c Q nL D A cells slots ws' lv (pc + 3) (st)) : WW p l e R s m args below meth c Q nL D A cells slots ws lv (pc) (.int x :: .ref a :: st) := by
  subst hs
  exact fun H locs ls hP hD hS hl => va_put (D := D) (ci := 1) (v := .int x) (ty := .int) (C := RX1) (T := TX1) (N := 6) C.1 C.2.1 C.2.2.2.2.1 inX1 tyX1 tyX1_ok nmX1 C.2.2.2.1 C.2.2.2.2.2.1 hP hD hS q0 hq rfl 2 (by decide) (C.2.2.2.2.1 _ hk) (fun _ h9 => h9) rfl (by decide +kernel) rfl rfl hl2 hd (fun H1 locs1 hP hD hS => kk H1 locs1 ls hP hD hS hl)
theorem gf1_3 (C : CX p s m args c cc nL own D k A) {index a : Nat} {fs : List Value} {v : Value} (hk : Cond.fieldLink own index "DoorWalk$Grid" "turns" "I" ∈ TB) (q0 : Nat) (hq : ws[q0]? = some (a, .inr (1, fs))) (hv : fs[3]? = some v) (hd : decode cc pc = .ok (.getfield index, 3)) (kk : WW p l e R s m args below meth c Q nL D A cells slots ws lv (pc + 3) (v :: st)) : WW p l e R s m args below meth c Q nL D A cells slots ws lv (pc) (.ref a :: st) := fun H locs ls hP hD hS hl => va_get (D := D) (ci := 1) (v := v) (C := RX1) (T := TX1) (N := 6) C.1 C.2.1 C.2.2.2.2.1 inX1 C.2.2.2.1 C.2.2.2.2.2.1 hP q0 hq rfl 3 (by decide) (C.2.2.2.2.1 _ hk) (fun _ h9 => h9) hv hd (kk H locs ls hP hD hS hl)
theorem pf1_3 (C : CX p s m args c cc nL own D k A) {index a : Nat} {fs : List Value} {x : Int32} (hk : Cond.fieldLink own index "DoorWalk$Grid" "turns" "I" ∈ TB) (q0 : Nat) (hq : ws[q0]? = some (a, .inr (1, fs))) (hl2 : 3 < fs.length) (hs : ws.set q0 (a, .inr (1, fs.set 3 (.int x))) = ws') (hd : decode cc pc = .ok (.putfield index, 3)) (kk : WW p l e R s m args below meth c Q nL D A cells slots ws' lv (pc + 3) (st)) : WW p l e R s m args below meth c Q nL D A cells slots ws lv (pc) (.int x :: .ref a :: st) := by
  subst hs
  exact fun H locs ls hP hD hS hl => va_put (D := D) (ci := 1) (v := .int x) (ty := .int) (C := RX1) (T := TX1) (N := 6) C.1 C.2.1 C.2.2.2.2.1 inX1 tyX1 tyX1_ok nmX1 C.2.2.2.1 C.2.2.2.2.2.1 hP hD hS q0 hq rfl 3 (by decide) (C.2.2.2.2.1 _ hk) (fun _ h9 => h9) rfl (by decide +kernel) rfl rfl hl2 hd (fun H1 locs1 hP hD hS => kk H1 locs1 ls hP hD hS hl)
theorem gf1_4 (C : CX p s m args c cc nL own D k A) {index a : Nat} {fs : List Value} {v : Value} (hk : Cond.fieldLink own index "DoorWalk$Grid" "firstFull" "I" ∈ TB) (q0 : Nat) (hq : ws[q0]? = some (a, .inr (1, fs))) (hv : fs[4]? = some v) (hd : decode cc pc = .ok (.getfield index, 3)) (kk : WW p l e R s m args below meth c Q nL D A cells slots ws lv (pc + 3) (v :: st)) : WW p l e R s m args below meth c Q nL D A cells slots ws lv (pc) (.ref a :: st) := fun H locs ls hP hD hS hl => va_get (D := D) (ci := 1) (v := v) (C := RX1) (T := TX1) (N := 6) C.1 C.2.1 C.2.2.2.2.1 inX1 C.2.2.2.1 C.2.2.2.2.2.1 hP q0 hq rfl 4 (by decide) (C.2.2.2.2.1 _ hk) (fun _ h9 => h9) hv hd (kk H locs ls hP hD hS hl)
theorem pf1_4 (C : CX p s m args c cc nL own D k A) {index a : Nat} {fs : List Value} {x : Int32} (hk : Cond.fieldLink own index "DoorWalk$Grid" "firstFull" "I" ∈ TB) (q0 : Nat) (hq : ws[q0]? = some (a, .inr (1, fs))) (hl2 : 4 < fs.length) (hs : ws.set q0 (a, .inr (1, fs.set 4 (.int x))) = ws') (hd : decode cc pc = .ok (.putfield index, 3)) (kk : WW p l e R s m args below meth c Q nL D A cells slots ws' lv (pc + 3) (st)) : WW p l e R s m args below meth c Q nL D A cells slots ws lv (pc) (.int x :: .ref a :: st) := by
  subst hs
  exact fun H locs ls hP hD hS hl => va_put (D := D) (ci := 1) (v := .int x) (ty := .int) (C := RX1) (T := TX1) (N := 6) C.1 C.2.1 C.2.2.2.2.1 inX1 tyX1 tyX1_ok nmX1 C.2.2.2.1 C.2.2.2.2.2.1 hP hD hS q0 hq rfl 4 (by decide) (C.2.2.2.2.1 _ hk) (fun _ h9 => h9) rfl (by decide +kernel) rfl rfl hl2 hd (fun H1 locs1 hP hD hS => kk H1 locs1 ls hP hD hS hl)
theorem gf1_5 (C : CX p s m args c cc nL own D k A) {index a : Nat} {fs : List Value} {v : Value} (hk : Cond.fieldLink own index "DoorWalk$Grid" "lastFull" "I" ∈ TB) (q0 : Nat) (hq : ws[q0]? = some (a, .inr (1, fs))) (hv : fs[5]? = some v) (hd : decode cc pc = .ok (.getfield index, 3)) (kk : WW p l e R s m args below meth c Q nL D A cells slots ws lv (pc + 3) (v :: st)) : WW p l e R s m args below meth c Q nL D A cells slots ws lv (pc) (.ref a :: st) := fun H locs ls hP hD hS hl => va_get (D := D) (ci := 1) (v := v) (C := RX1) (T := TX1) (N := 6) C.1 C.2.1 C.2.2.2.2.1 inX1 C.2.2.2.1 C.2.2.2.2.2.1 hP q0 hq rfl 5 (by decide) (C.2.2.2.2.1 _ hk) (fun _ h9 => h9) hv hd (kk H locs ls hP hD hS hl)
theorem pf1_5 (C : CX p s m args c cc nL own D k A) {index a : Nat} {fs : List Value} {x : Int32} (hk : Cond.fieldLink own index "DoorWalk$Grid" "lastFull" "I" ∈ TB) (q0 : Nat) (hq : ws[q0]? = some (a, .inr (1, fs))) (hl2 : 5 < fs.length) (hs : ws.set q0 (a, .inr (1, fs.set 5 (.int x))) = ws') (hd : decode cc pc = .ok (.putfield index, 3)) (kk : WW p l e R s m args below meth c Q nL D A cells slots ws' lv (pc + 3) (st)) : WW p l e R s m args below meth c Q nL D A cells slots ws lv (pc) (.int x :: .ref a :: st) := by
  subst hs
  exact fun H locs ls hP hD hS hl => va_put (D := D) (ci := 1) (v := .int x) (ty := .int) (C := RX1) (T := TX1) (N := 6) C.1 C.2.1 C.2.2.2.2.1 inX1 tyX1 tyX1_ok nmX1 C.2.2.2.1 C.2.2.2.2.2.1 hP hD hS q0 hq rfl 5 (by decide) (C.2.2.2.2.1 _ hk) (fun _ h9 => h9) rfl (by decide +kernel) rfl rfl hl2 hd (fun H1 locs1 hP hD hS => kk H1 locs1 ls hP hD hS hl)
theorem gf2_0 (C : CX p s m args c cc nL own D k A) {index a : Nat} {fs : List Value} {v : Value} (hk : Cond.fieldLink own index "DoorWalk$History" "ring" "[LDoorWalk$State;" ∈ TB) (q0 : Nat) (hq : ws[q0]? = some (a, .inr (2, fs))) (hv : fs[0]? = some v) (hd : decode cc pc = .ok (.getfield index, 3)) (kk : WW p l e R s m args below meth c Q nL D A cells slots ws lv (pc + 3) (v :: st)) : WW p l e R s m args below meth c Q nL D A cells slots ws lv (pc) (.ref a :: st) := fun H locs ls hP hD hS hl => va_get (D := D) (ci := 2) (v := v) (C := RX2) (T := TX2) (N := 3) C.1 C.2.1 C.2.2.2.2.1 inX2 C.2.2.2.1 C.2.2.2.2.2.1 hP q0 hq rfl 0 (by decide) (C.2.2.2.2.1 _ hk) (fun _ h9 => h9) hv hd (kk H locs ls hP hD hS hl)
theorem gf2_1 (C : CX p s m args c cc nL own D k A) {index a : Nat} {fs : List Value} {v : Value} (hk : Cond.fieldLink own index "DoorWalk$History" "next" "I" ∈ TB) (q0 : Nat) (hq : ws[q0]? = some (a, .inr (2, fs))) (hv : fs[1]? = some v) (hd : decode cc pc = .ok (.getfield index, 3)) (kk : WW p l e R s m args below meth c Q nL D A cells slots ws lv (pc + 3) (v :: st)) : WW p l e R s m args below meth c Q nL D A cells slots ws lv (pc) (.ref a :: st) := fun H locs ls hP hD hS hl => va_get (D := D) (ci := 2) (v := v) (C := RX2) (T := TX2) (N := 3) C.1 C.2.1 C.2.2.2.2.1 inX2 C.2.2.2.1 C.2.2.2.2.2.1 hP q0 hq rfl 1 (by decide) (C.2.2.2.2.1 _ hk) (fun _ h9 => h9) hv hd (kk H locs ls hP hD hS hl)
theorem pf2_1 (C : CX p s m args c cc nL own D k A) {index a : Nat} {fs : List Value} {x : Int32} (hk : Cond.fieldLink own index "DoorWalk$History" "next" "I" ∈ TB) (q0 : Nat) (hq : ws[q0]? = some (a, .inr (2, fs))) (hl2 : 1 < fs.length) (hs : ws.set q0 (a, .inr (2, fs.set 1 (.int x))) = ws') (hd : decode cc pc = .ok (.putfield index, 3)) (kk : WW p l e R s m args below meth c Q nL D A cells slots ws' lv (pc + 3) (st)) : WW p l e R s m args below meth c Q nL D A cells slots ws lv (pc) (.int x :: .ref a :: st) := by
  subst hs
  exact fun H locs ls hP hD hS hl => va_put (D := D) (ci := 2) (v := .int x) (ty := .int) (C := RX2) (T := TX2) (N := 3) C.1 C.2.1 C.2.2.2.2.1 inX2 tyX2 tyX2_ok nmX2 C.2.2.2.1 C.2.2.2.2.2.1 hP hD hS q0 hq rfl 1 (by decide) (C.2.2.2.2.1 _ hk) (fun _ h9 => h9) rfl (by decide +kernel) rfl rfl hl2 hd (fun H1 locs1 hP hD hS => kk H1 locs1 ls hP hD hS hl)
theorem gf2_2 (C : CX p s m args c cc nL own D k A) {index a : Nat} {fs : List Value} {v : Value} (hk : Cond.fieldLink own index "DoorWalk$History" "size" "I" ∈ TB) (q0 : Nat) (hq : ws[q0]? = some (a, .inr (2, fs))) (hv : fs[2]? = some v) (hd : decode cc pc = .ok (.getfield index, 3)) (kk : WW p l e R s m args below meth c Q nL D A cells slots ws lv (pc + 3) (v :: st)) : WW p l e R s m args below meth c Q nL D A cells slots ws lv (pc) (.ref a :: st) := fun H locs ls hP hD hS hl => va_get (D := D) (ci := 2) (v := v) (C := RX2) (T := TX2) (N := 3) C.1 C.2.1 C.2.2.2.2.1 inX2 C.2.2.2.1 C.2.2.2.2.2.1 hP q0 hq rfl 2 (by decide) (C.2.2.2.2.1 _ hk) (fun _ h9 => h9) hv hd (kk H locs ls hP hD hS hl)
theorem pf2_2 (C : CX p s m args c cc nL own D k A) {index a : Nat} {fs : List Value} {x : Int32} (hk : Cond.fieldLink own index "DoorWalk$History" "size" "I" ∈ TB) (q0 : Nat) (hq : ws[q0]? = some (a, .inr (2, fs))) (hl2 : 2 < fs.length) (hs : ws.set q0 (a, .inr (2, fs.set 2 (.int x))) = ws') (hd : decode cc pc = .ok (.putfield index, 3)) (kk : WW p l e R s m args below meth c Q nL D A cells slots ws' lv (pc + 3) (st)) : WW p l e R s m args below meth c Q nL D A cells slots ws lv (pc) (.int x :: .ref a :: st) := by
  subst hs
  exact fun H locs ls hP hD hS hl => va_put (D := D) (ci := 2) (v := .int x) (ty := .int) (C := RX2) (T := TX2) (N := 3) C.1 C.2.1 C.2.2.2.2.1 inX2 tyX2 tyX2_ok nmX2 C.2.2.2.1 C.2.2.2.2.2.1 hP hD hS q0 hq rfl 2 (by decide) (C.2.2.2.2.1 _ hk) (fun _ h9 => h9) rfl (by decide +kernel) rfl rfl hl2 hd (fun H1 locs1 hP hD hS => kk H1 locs1 ls hP hD hS hl)
theorem gf3_0 (C : CX p s m args c cc nL own D k A) {index a : Nat} {fs : List Value} {v : Value} (hk : Cond.fieldLink own index "DoorWalk$Row" "numbers" "[J" ∈ TB) (q0 : Nat) (hq : ws[q0]? = some (a, .inr (3, fs))) (hv : fs[0]? = some v) (hd : decode cc pc = .ok (.getfield index, 3)) (kk : WW p l e R s m args below meth c Q nL D A cells slots ws lv (pc + 3) (v :: st)) : WW p l e R s m args below meth c Q nL D A cells slots ws lv (pc) (.ref a :: st) := fun H locs ls hP hD hS hl => va_get (D := D) (ci := 3) (v := v) (C := RX3) (T := TX3) (N := 2) C.1 C.2.1 C.2.2.2.2.1 inX3 C.2.2.2.1 C.2.2.2.2.2.1 hP q0 hq rfl 0 (by decide) (C.2.2.2.2.1 _ hk) (fun _ h9 => h9) hv hd (kk H locs ls hP hD hS hl)
theorem gf3_1 (C : CX p s m args c cc nL own D k A) {index a : Nat} {fs : List Value} {v : Value} (hk : Cond.fieldLink own index "DoorWalk$Row" "length" "I" ∈ TB) (q0 : Nat) (hq : ws[q0]? = some (a, .inr (3, fs))) (hv : fs[1]? = some v) (hd : decode cc pc = .ok (.getfield index, 3)) (kk : WW p l e R s m args below meth c Q nL D A cells slots ws lv (pc + 3) (v :: st)) : WW p l e R s m args below meth c Q nL D A cells slots ws lv (pc) (.ref a :: st) := fun H locs ls hP hD hS hl => va_get (D := D) (ci := 3) (v := v) (C := RX3) (T := TX3) (N := 2) C.1 C.2.1 C.2.2.2.2.1 inX3 C.2.2.2.1 C.2.2.2.2.2.1 hP q0 hq rfl 1 (by decide) (C.2.2.2.2.1 _ hk) (fun _ h9 => h9) hv hd (kk H locs ls hP hD hS hl)
theorem pf3_1 (C : CX p s m args c cc nL own D k A) {index a : Nat} {fs : List Value} {x : Int32} (hk : Cond.fieldLink own index "DoorWalk$Row" "length" "I" ∈ TB) (q0 : Nat) (hq : ws[q0]? = some (a, .inr (3, fs))) (hl2 : 1 < fs.length) (hs : ws.set q0 (a, .inr (3, fs.set 1 (.int x))) = ws') (hd : decode cc pc = .ok (.putfield index, 3)) (kk : WW p l e R s m args below meth c Q nL D A cells slots ws' lv (pc + 3) (st)) : WW p l e R s m args below meth c Q nL D A cells slots ws lv (pc) (.int x :: .ref a :: st) := by
  subst hs
  exact fun H locs ls hP hD hS hl => va_put (D := D) (ci := 3) (v := .int x) (ty := .int) (C := RX3) (T := TX3) (N := 2) C.1 C.2.1 C.2.2.2.2.1 inX3 tyX3 tyX3_ok nmX3 C.2.2.2.1 C.2.2.2.2.2.1 hP hD hS q0 hq rfl 1 (by decide) (C.2.2.2.2.1 _ hk) (fun _ h9 => h9) rfl (by decide +kernel) rfl rfl hl2 hd (fun H1 locs1 hP hD hS => kk H1 locs1 ls hP hD hS hl)
theorem gf4_0 (C : CX p s m args c cc nL own D k A) {index a : Nat} {fs : List Value} {v : Value} (hk : Cond.fieldLink own index "DoorWalk$Rule" "owned" "[I" ∈ TB) (q0 : Nat) (hq : ws[q0]? = some (a, .inr (4, fs))) (hv : fs[0]? = some v) (hd : decode cc pc = .ok (.getfield index, 3)) (kk : WW p l e R s m args below meth c Q nL D A cells slots ws lv (pc + 3) (v :: st)) : WW p l e R s m args below meth c Q nL D A cells slots ws lv (pc) (.ref a :: st) := fun H locs ls hP hD hS hl => va_get (D := D) (ci := 4) (v := v) (C := RX4) (T := TX4) (N := 5) C.1 C.2.1 C.2.2.2.2.1 inX4 C.2.2.2.1 C.2.2.2.2.2.1 hP q0 hq rfl 0 (by decide) (C.2.2.2.2.1 _ hk) (fun _ h9 => h9) hv hd (kk H locs ls hP hD hS hl)
theorem gf4_1 (C : CX p s m args c cc nL own D k A) {index a : Nat} {fs : List Value} {v : Value} (hk : Cond.fieldLink own index "DoorWalk$Rule" "wished" "[I" ∈ TB) (q0 : Nat) (hq : ws[q0]? = some (a, .inr (4, fs))) (hv : fs[1]? = some v) (hd : decode cc pc = .ok (.getfield index, 3)) (kk : WW p l e R s m args below meth c Q nL D A cells slots ws lv (pc + 3) (v :: st)) : WW p l e R s m args below meth c Q nL D A cells slots ws lv (pc) (.ref a :: st) := fun H locs ls hP hD hS hl => va_get (D := D) (ci := 4) (v := v) (C := RX4) (T := TX4) (N := 5) C.1 C.2.1 C.2.2.2.2.1 inX4 C.2.2.2.1 C.2.2.2.2.2.1 hP q0 hq rfl 1 (by decide) (C.2.2.2.2.1 _ hk) (fun _ h9 => h9) hv hd (kk H locs ls hP hD hS hl)
theorem gf4_2 (C : CX p s m args c cc nL own D k A) {index a : Nat} {fs : List Value} {v : Value} (hk : Cond.fieldLink own index "DoorWalk$Rule" "pulls" "[J" ∈ TB) (q0 : Nat) (hq : ws[q0]? = some (a, .inr (4, fs))) (hv : fs[2]? = some v) (hd : decode cc pc = .ok (.getfield index, 3)) (kk : WW p l e R s m args below meth c Q nL D A cells slots ws lv (pc + 3) (v :: st)) : WW p l e R s m args below meth c Q nL D A cells slots ws lv (pc) (.ref a :: st) := fun H locs ls hP hD hS hl => va_get (D := D) (ci := 4) (v := v) (C := RX4) (T := TX4) (N := 5) C.1 C.2.1 C.2.2.2.2.1 inX4 C.2.2.2.1 C.2.2.2.2.2.1 hP q0 hq rfl 2 (by decide) (C.2.2.2.2.1 _ hk) (fun _ h9 => h9) hv hd (kk H locs ls hP hD hS hl)
theorem gf4_3 (C : CX p s m args c cc nL own D k A) {index a : Nat} {fs : List Value} {v : Value} (hk : Cond.fieldLink own index "DoorWalk$Rule" "kind" "I" ∈ TB) (q0 : Nat) (hq : ws[q0]? = some (a, .inr (4, fs))) (hv : fs[3]? = some v) (hd : decode cc pc = .ok (.getfield index, 3)) (kk : WW p l e R s m args below meth c Q nL D A cells slots ws lv (pc + 3) (v :: st)) : WW p l e R s m args below meth c Q nL D A cells slots ws lv (pc) (.ref a :: st) := fun H locs ls hP hD hS hl => va_get (D := D) (ci := 4) (v := v) (C := RX4) (T := TX4) (N := 5) C.1 C.2.1 C.2.2.2.2.1 inX4 C.2.2.2.1 C.2.2.2.2.2.1 hP q0 hq rfl 3 (by decide) (C.2.2.2.2.1 _ hk) (fun _ h9 => h9) hv hd (kk H locs ls hP hD hS hl)
theorem pf4_3 (C : CX p s m args c cc nL own D k A) {index a : Nat} {fs : List Value} {x : Int32} (hk : Cond.fieldLink own index "DoorWalk$Rule" "kind" "I" ∈ TB) (q0 : Nat) (hq : ws[q0]? = some (a, .inr (4, fs))) (hl2 : 3 < fs.length) (hs : ws.set q0 (a, .inr (4, fs.set 3 (.int x))) = ws') (hd : decode cc pc = .ok (.putfield index, 3)) (kk : WW p l e R s m args below meth c Q nL D A cells slots ws' lv (pc + 3) (st)) : WW p l e R s m args below meth c Q nL D A cells slots ws lv (pc) (.int x :: .ref a :: st) := by
  subst hs
  exact fun H locs ls hP hD hS hl => va_put (D := D) (ci := 4) (v := .int x) (ty := .int) (C := RX4) (T := TX4) (N := 5) C.1 C.2.1 C.2.2.2.2.1 inX4 tyX4 tyX4_ok nmX4 C.2.2.2.1 C.2.2.2.2.2.1 hP hD hS q0 hq rfl 3 (by decide) (C.2.2.2.2.1 _ hk) (fun _ h9 => h9) rfl (by decide +kernel) rfl rfl hl2 hd (fun H1 locs1 hP hD hS => kk H1 locs1 ls hP hD hS hl)
theorem gf4_4 (C : CX p s m args c cc nL own D k A) {index a : Nat} {fs : List Value} {v : Value} (hk : Cond.fieldLink own index "DoorWalk$Rule" "traders" "I" ∈ TB) (q0 : Nat) (hq : ws[q0]? = some (a, .inr (4, fs))) (hv : fs[4]? = some v) (hd : decode cc pc = .ok (.getfield index, 3)) (kk : WW p l e R s m args below meth c Q nL D A cells slots ws lv (pc + 3) (v :: st)) : WW p l e R s m args below meth c Q nL D A cells slots ws lv (pc) (.ref a :: st) := fun H locs ls hP hD hS hl => va_get (D := D) (ci := 4) (v := v) (C := RX4) (T := TX4) (N := 5) C.1 C.2.1 C.2.2.2.2.1 inX4 C.2.2.2.1 C.2.2.2.2.2.1 hP q0 hq rfl 4 (by decide) (C.2.2.2.2.1 _ hk) (fun _ h9 => h9) hv hd (kk H locs ls hP hD hS hl)
theorem pf4_4 (C : CX p s m args c cc nL own D k A) {index a : Nat} {fs : List Value} {x : Int32} (hk : Cond.fieldLink own index "DoorWalk$Rule" "traders" "I" ∈ TB) (q0 : Nat) (hq : ws[q0]? = some (a, .inr (4, fs))) (hl2 : 4 < fs.length) (hs : ws.set q0 (a, .inr (4, fs.set 4 (.int x))) = ws') (hd : decode cc pc = .ok (.putfield index, 3)) (kk : WW p l e R s m args below meth c Q nL D A cells slots ws' lv (pc + 3) (st)) : WW p l e R s m args below meth c Q nL D A cells slots ws lv (pc) (.int x :: .ref a :: st) := by
  subst hs
  exact fun H locs ls hP hD hS hl => va_put (D := D) (ci := 4) (v := .int x) (ty := .int) (C := RX4) (T := TX4) (N := 5) C.1 C.2.1 C.2.2.2.2.1 inX4 tyX4 tyX4_ok nmX4 C.2.2.2.1 C.2.2.2.2.2.1 hP hD hS q0 hq rfl 4 (by decide) (C.2.2.2.2.1 _ hk) (fun _ h9 => h9) rfl (by decide +kernel) rfl rfl hl2 hd (fun H1 locs1 hP hD hS => kk H1 locs1 ls hP hD hS hl)
theorem gf5_0 (C : CX p s m args c cc nL own D k A) {index a : Nat} {fs : List Value} {v : Value} (hk : Cond.fieldLink own index "DoorWalk$State" "grid" "LDoorWalk$Grid;" ∈ TB) (q0 : Nat) (hq : ws[q0]? = some (a, .inr (5, fs))) (hv : fs[0]? = some v) (hd : decode cc pc = .ok (.getfield index, 3)) (kk : WW p l e R s m args below meth c Q nL D A cells slots ws lv (pc + 3) (v :: st)) : WW p l e R s m args below meth c Q nL D A cells slots ws lv (pc) (.ref a :: st) := fun H locs ls hP hD hS hl => va_get (D := D) (ci := 5) (v := v) (C := RX5) (T := TX5) (N := 2) C.1 C.2.1 C.2.2.2.2.1 inX5 C.2.2.2.1 C.2.2.2.2.2.1 hP q0 hq rfl 0 (by decide) (C.2.2.2.2.1 _ hk) (fun _ h9 => h9) hv hd (kk H locs ls hP hD hS hl)
theorem gf5_1 (C : CX p s m args c cc nL own D k A) {index a : Nat} {fs : List Value} {v : Value} (hk : Cond.fieldLink own index "DoorWalk$State" "rule" "LDoorWalk$Rule;" ∈ TB) (q0 : Nat) (hq : ws[q0]? = some (a, .inr (5, fs))) (hv : fs[1]? = some v) (hd : decode cc pc = .ok (.getfield index, 3)) (kk : WW p l e R s m args below meth c Q nL D A cells slots ws lv (pc + 3) (v :: st)) : WW p l e R s m args below meth c Q nL D A cells slots ws lv (pc) (.ref a :: st) := fun H locs ls hP hD hS hl => va_get (D := D) (ci := 5) (v := v) (C := RX5) (T := TX5) (N := 2) C.1 C.2.1 C.2.2.2.2.1 inX5 C.2.2.2.1 C.2.2.2.2.2.1 hP q0 hq rfl 1 (by decide) (C.2.2.2.2.1 _ hk) (fun _ h9 => h9) hv hd (kk H locs ls hP hD hS hl)
theorem gf6_0 (C : CX p s m args c cc nL own D k A) {index a : Nat} {fs : List Value} {v : Value} (hk : Cond.fieldLink own index "DoorWalk$Text" "signs" "[I" ∈ TB) (q0 : Nat) (hq : ws[q0]? = some (a, .inr (6, fs))) (hv : fs[0]? = some v) (hd : decode cc pc = .ok (.getfield index, 3)) (kk : WW p l e R s m args below meth c Q nL D A cells slots ws lv (pc + 3) (v :: st)) : WW p l e R s m args below meth c Q nL D A cells slots ws lv (pc) (.ref a :: st) := fun H locs ls hP hD hS hl => va_get (D := D) (ci := 6) (v := v) (C := RX6) (T := TX6) (N := 2) C.1 C.2.1 C.2.2.2.2.1 inX6 C.2.2.2.1 C.2.2.2.2.2.1 hP q0 hq rfl 0 (by decide) (C.2.2.2.2.1 _ hk) (fun _ h9 => h9) hv hd (kk H locs ls hP hD hS hl)
theorem gf6_1 (C : CX p s m args c cc nL own D k A) {index a : Nat} {fs : List Value} {v : Value} (hk : Cond.fieldLink own index "DoorWalk$Text" "length" "I" ∈ TB) (q0 : Nat) (hq : ws[q0]? = some (a, .inr (6, fs))) (hv : fs[1]? = some v) (hd : decode cc pc = .ok (.getfield index, 3)) (kk : WW p l e R s m args below meth c Q nL D A cells slots ws lv (pc + 3) (v :: st)) : WW p l e R s m args below meth c Q nL D A cells slots ws lv (pc) (.ref a :: st) := fun H locs ls hP hD hS hl => va_get (D := D) (ci := 6) (v := v) (C := RX6) (T := TX6) (N := 2) C.1 C.2.1 C.2.2.2.2.1 inX6 C.2.2.2.1 C.2.2.2.2.2.1 hP q0 hq rfl 1 (by decide) (C.2.2.2.2.1 _ hk) (fun _ h9 => h9) hv hd (kk H locs ls hP hD hS hl)
theorem pf6_1 (C : CX p s m args c cc nL own D k A) {index a : Nat} {fs : List Value} {x : Int32} (hk : Cond.fieldLink own index "DoorWalk$Text" "length" "I" ∈ TB) (q0 : Nat) (hq : ws[q0]? = some (a, .inr (6, fs))) (hl2 : 1 < fs.length) (hs : ws.set q0 (a, .inr (6, fs.set 1 (.int x))) = ws') (hd : decode cc pc = .ok (.putfield index, 3)) (kk : WW p l e R s m args below meth c Q nL D A cells slots ws' lv (pc + 3) (st)) : WW p l e R s m args below meth c Q nL D A cells slots ws lv (pc) (.int x :: .ref a :: st) := by
  subst hs
  exact fun H locs ls hP hD hS hl => va_put (D := D) (ci := 6) (v := .int x) (ty := .int) (C := RX6) (T := TX6) (N := 2) C.1 C.2.1 C.2.2.2.2.1 inX6 tyX6 tyX6_ok nmX6 C.2.2.2.1 C.2.2.2.2.2.1 hP hD hS q0 hq rfl 1 (by decide) (C.2.2.2.2.1 _ hk) (fun _ h9 => h9) rfl (by decide +kernel) rfl rfl hl2 hd (fun H1 locs1 hP hD hS => kk H1 locs1 ls hP hD hS hl)
theorem gf7_0 (C : CX p s m args c cc nL own D k A) {index a : Nat} {fs : List Value} {v : Value} (hk : Cond.fieldLink own index "DoorWalk" "text" "LDoorWalk$Text;" ∈ TB) (q0 : Nat) (hq : ws[q0]? = some (a, .inr (7, fs))) (hv : fs[0]? = some v) (hd : decode cc pc = .ok (.getfield index, 3)) (kk : WW p l e R s m args below meth c Q nL D A cells slots ws lv (pc + 3) (v :: st)) : WW p l e R s m args below meth c Q nL D A cells slots ws lv (pc) (.ref a :: st) := fun H locs ls hP hD hS hl => va_get (D := D) (ci := 7) (v := v) (C := RX7) (T := TX7) (N := 7) C.1 C.2.1 C.2.2.2.2.1 inX7 C.2.2.2.1 C.2.2.2.2.2.1 hP q0 hq rfl 0 (by decide) (C.2.2.2.2.1 _ hk) (fun _ h9 => h9) hv hd (kk H locs ls hP hD hS hl)
theorem gf7_1 (C : CX p s m args c cc nL own D k A) {index a : Nat} {fs : List Value} {v : Value} (hk : Cond.fieldLink own index "DoorWalk" "row" "LDoorWalk$Row;" ∈ TB) (q0 : Nat) (hq : ws[q0]? = some (a, .inr (7, fs))) (hv : fs[1]? = some v) (hd : decode cc pc = .ok (.getfield index, 3)) (kk : WW p l e R s m args below meth c Q nL D A cells slots ws lv (pc + 3) (v :: st)) : WW p l e R s m args below meth c Q nL D A cells slots ws lv (pc) (.ref a :: st) := fun H locs ls hP hD hS hl => va_get (D := D) (ci := 7) (v := v) (C := RX7) (T := TX7) (N := 7) C.1 C.2.1 C.2.2.2.2.1 inX7 C.2.2.2.1 C.2.2.2.2.2.1 hP q0 hq rfl 1 (by decide) (C.2.2.2.2.1 _ hk) (fun _ h9 => h9) hv hd (kk H locs ls hP hD hS hl)
theorem gf7_2 (C : CX p s m args c cc nL own D k A) {index a : Nat} {fs : List Value} {v : Value} (hk : Cond.fieldLink own index "DoorWalk" "now" "LDoorWalk$State;" ∈ TB) (q0 : Nat) (hq : ws[q0]? = some (a, .inr (7, fs))) (hv : fs[2]? = some v) (hd : decode cc pc = .ok (.getfield index, 3)) (kk : WW p l e R s m args below meth c Q nL D A cells slots ws lv (pc + 3) (v :: st)) : WW p l e R s m args below meth c Q nL D A cells slots ws lv (pc) (.ref a :: st) := fun H locs ls hP hD hS hl => va_get (D := D) (ci := 7) (v := v) (C := RX7) (T := TX7) (N := 7) C.1 C.2.1 C.2.2.2.2.1 inX7 C.2.2.2.1 C.2.2.2.2.2.1 hP q0 hq rfl 2 (by decide) (C.2.2.2.2.1 _ hk) (fun _ h9 => h9) hv hd (kk H locs ls hP hD hS hl)
theorem gf7_3 (C : CX p s m args c cc nL own D k A) {index a : Nat} {fs : List Value} {v : Value} (hk : Cond.fieldLink own index "DoorWalk" "trial" "LDoorWalk$Grid;" ∈ TB) (q0 : Nat) (hq : ws[q0]? = some (a, .inr (7, fs))) (hv : fs[3]? = some v) (hd : decode cc pc = .ok (.getfield index, 3)) (kk : WW p l e R s m args below meth c Q nL D A cells slots ws lv (pc + 3) (v :: st)) : WW p l e R s m args below meth c Q nL D A cells slots ws lv (pc) (.ref a :: st) := fun H locs ls hP hD hS hl => va_get (D := D) (ci := 7) (v := v) (C := RX7) (T := TX7) (N := 7) C.1 C.2.1 C.2.2.2.2.1 inX7 C.2.2.2.1 C.2.2.2.2.2.1 hP q0 hq rfl 3 (by decide) (C.2.2.2.2.1 _ hk) (fun _ h9 => h9) hv hd (kk H locs ls hP hD hS hl)
theorem gf7_4 (C : CX p s m args c cc nL own D k A) {index a : Nat} {fs : List Value} {v : Value} (hk : Cond.fieldLink own index "DoorWalk" "doors" "LDoorWalk$Doors;" ∈ TB) (q0 : Nat) (hq : ws[q0]? = some (a, .inr (7, fs))) (hv : fs[4]? = some v) (hd : decode cc pc = .ok (.getfield index, 3)) (kk : WW p l e R s m args below meth c Q nL D A cells slots ws lv (pc + 3) (v :: st)) : WW p l e R s m args below meth c Q nL D A cells slots ws lv (pc) (.ref a :: st) := fun H locs ls hP hD hS hl => va_get (D := D) (ci := 7) (v := v) (C := RX7) (T := TX7) (N := 7) C.1 C.2.1 C.2.2.2.2.1 inX7 C.2.2.2.1 C.2.2.2.2.2.1 hP q0 hq rfl 4 (by decide) (C.2.2.2.2.1 _ hk) (fun _ h9 => h9) hv hd (kk H locs ls hP hD hS hl)
theorem gf7_5 (C : CX p s m args c cc nL own D k A) {index a : Nat} {fs : List Value} {v : Value} (hk : Cond.fieldLink own index "DoorWalk" "history" "LDoorWalk$History;" ∈ TB) (q0 : Nat) (hq : ws[q0]? = some (a, .inr (7, fs))) (hv : fs[5]? = some v) (hd : decode cc pc = .ok (.getfield index, 3)) (kk : WW p l e R s m args below meth c Q nL D A cells slots ws lv (pc + 3) (v :: st)) : WW p l e R s m args below meth c Q nL D A cells slots ws lv (pc) (.ref a :: st) := fun H locs ls hP hD hS hl => va_get (D := D) (ci := 7) (v := v) (C := RX7) (T := TX7) (N := 7) C.1 C.2.1 C.2.2.2.2.1 inX7 C.2.2.2.1 C.2.2.2.2.2.1 hP q0 hq rfl 5 (by decide) (C.2.2.2.2.1 _ hk) (fun _ h9 => h9) hv hd (kk H locs ls hP hD hS hl)
theorem gf7_6 (C : CX p s m args c cc nL own D k A) {index a : Nat} {fs : List Value} {v : Value} (hk : Cond.fieldLink own index "DoorWalk" "kept" "[LDoorWalk$State;" ∈ TB) (q0 : Nat) (hq : ws[q0]? = some (a, .inr (7, fs))) (hv : fs[6]? = some v) (hd : decode cc pc = .ok (.getfield index, 3)) (kk : WW p l e R s m args below meth c Q nL D A cells slots ws lv (pc + 3) (v :: st)) : WW p l e R s m args below meth c Q nL D A cells slots ws lv (pc) (.ref a :: st) := fun H locs ls hP hD hS hl => va_get (D := D) (ci := 7) (v := v) (C := RX7) (T := TX7) (N := 7) C.1 C.2.1 C.2.2.2.2.1 inX7 C.2.2.2.1 C.2.2.2.2.2.1 hP q0 hq rfl 6 (by decide) (C.2.2.2.2.1 _ hk) (fun _ h9 => h9) hv hd (kk H locs ls hP hD hS hl)
theorem gf8_0 (C : CX p s m args c cc nL own D k A) {index a : Nat} {fs : List Value} {v : Value} (hk : Cond.fieldLink own index "DoorWalkModel" "now" "[I" ∈ TB) (q0 : Nat) (hq : ws[q0]? = some (a, .inr (8, fs))) (hv : fs[0]? = some v) (hd : decode cc pc = .ok (.getfield index, 3)) (kk : WW p l e R s m args below meth c Q nL D A cells slots ws lv (pc + 3) (v :: st)) : WW p l e R s m args below meth c Q nL D A cells slots ws lv (pc) (.ref a :: st) := fun H locs ls hP hD hS hl => va_get (D := D) (ci := 8) (v := v) (C := RX8) (T := TX8) (N := 26) C.1 C.2.1 C.2.2.2.2.1 inX8 C.2.2.2.1 C.2.2.2.2.2.1 hP q0 hq rfl 0 (by decide) (C.2.2.2.2.1 _ hk) (fun _ h9 => h9) hv hd (kk H locs ls hP hD hS hl)
theorem gf8_1 (C : CX p s m args c cc nL own D k A) {index a : Nat} {fs : List Value} {v : Value} (hk : Cond.fieldLink own index "DoorWalkModel" "text" "[B" ∈ TB) (q0 : Nat) (hq : ws[q0]? = some (a, .inr (8, fs))) (hv : fs[1]? = some v) (hd : decode cc pc = .ok (.getfield index, 3)) (kk : WW p l e R s m args below meth c Q nL D A cells slots ws lv (pc + 3) (v :: st)) : WW p l e R s m args below meth c Q nL D A cells slots ws lv (pc) (.ref a :: st) := fun H locs ls hP hD hS hl => va_get (D := D) (ci := 8) (v := v) (C := RX8) (T := TX8) (N := 26) C.1 C.2.1 C.2.2.2.2.1 inX8 C.2.2.2.1 C.2.2.2.2.2.1 hP q0 hq rfl 1 (by decide) (C.2.2.2.2.1 _ hk) (fun _ h9 => h9) hv hd (kk H locs ls hP hD hS hl)
theorem gf8_2 (C : CX p s m args c cc nL own D k A) {index a : Nat} {fs : List Value} {v : Value} (hk : Cond.fieldLink own index "DoorWalkModel" "typed" "I" ∈ TB) (q0 : Nat) (hq : ws[q0]? = some (a, .inr (8, fs))) (hv : fs[2]? = some v) (hd : decode cc pc = .ok (.getfield index, 3)) (kk : WW p l e R s m args below meth c Q nL D A cells slots ws lv (pc + 3) (v :: st)) : WW p l e R s m args below meth c Q nL D A cells slots ws lv (pc) (.ref a :: st) := fun H locs ls hP hD hS hl => va_get (D := D) (ci := 8) (v := v) (C := RX8) (T := TX8) (N := 26) C.1 C.2.1 C.2.2.2.2.1 inX8 C.2.2.2.1 C.2.2.2.2.2.1 hP q0 hq rfl 2 (by decide) (C.2.2.2.2.1 _ hk) (fun _ h9 => h9) hv hd (kk H locs ls hP hD hS hl)
theorem pf8_2 (C : CX p s m args c cc nL own D k A) {index a : Nat} {fs : List Value} {x : Int32} (hk : Cond.fieldLink own index "DoorWalkModel" "typed" "I" ∈ TB) (q0 : Nat) (hq : ws[q0]? = some (a, .inr (8, fs))) (hl2 : 2 < fs.length) (hs : ws.set q0 (a, .inr (8, fs.set 2 (.int x))) = ws') (hd : decode cc pc = .ok (.putfield index, 3)) (kk : WW p l e R s m args below meth c Q nL D A cells slots ws' lv (pc + 3) (st)) : WW p l e R s m args below meth c Q nL D A cells slots ws lv (pc) (.int x :: .ref a :: st) := by
  subst hs
  exact fun H locs ls hP hD hS hl => va_put (D := D) (ci := 8) (v := .int x) (ty := .int) (C := RX8) (T := TX8) (N := 26) C.1 C.2.1 C.2.2.2.2.1 inX8 tyX8 tyX8_ok nmX8 C.2.2.2.1 C.2.2.2.2.2.1 hP hD hS q0 hq rfl 2 (by decide) (C.2.2.2.2.1 _ hk) (fun _ h9 => h9) rfl (by decide +kernel) rfl rfl hl2 hd (fun H1 locs1 hP hD hS => kk H1 locs1 ls hP hD hS hl)
theorem gf8_3 (C : CX p s m args c cc nL own D k A) {index a : Nat} {fs : List Value} {v : Value} (hk : Cond.fieldLink own index "DoorWalkModel" "row" "[J" ∈ TB) (q0 : Nat) (hq : ws[q0]? = some (a, .inr (8, fs))) (hv : fs[3]? = some v) (hd : decode cc pc = .ok (.getfield index, 3)) (kk : WW p l e R s m args below meth c Q nL D A cells slots ws lv (pc + 3) (v :: st)) : WW p l e R s m args below meth c Q nL D A cells slots ws lv (pc) (.ref a :: st) := fun H locs ls hP hD hS hl => va_get (D := D) (ci := 8) (v := v) (C := RX8) (T := TX8) (N := 26) C.1 C.2.1 C.2.2.2.2.1 inX8 C.2.2.2.1 C.2.2.2.2.2.1 hP q0 hq rfl 3 (by decide) (C.2.2.2.2.1 _ hk) (fun _ h9 => h9) hv hd (kk H locs ls hP hD hS hl)
theorem gf8_4 (C : CX p s m args c cc nL own D k A) {index a : Nat} {fs : List Value} {v : Value} (hk : Cond.fieldLink own index "DoorWalkModel" "rowMany" "I" ∈ TB) (q0 : Nat) (hq : ws[q0]? = some (a, .inr (8, fs))) (hv : fs[4]? = some v) (hd : decode cc pc = .ok (.getfield index, 3)) (kk : WW p l e R s m args below meth c Q nL D A cells slots ws lv (pc + 3) (v :: st)) : WW p l e R s m args below meth c Q nL D A cells slots ws lv (pc) (.ref a :: st) := fun H locs ls hP hD hS hl => va_get (D := D) (ci := 8) (v := v) (C := RX8) (T := TX8) (N := 26) C.1 C.2.1 C.2.2.2.2.1 inX8 C.2.2.2.1 C.2.2.2.2.2.1 hP q0 hq rfl 4 (by decide) (C.2.2.2.2.1 _ hk) (fun _ h9 => h9) hv hd (kk H locs ls hP hD hS hl)
theorem pf8_4 (C : CX p s m args c cc nL own D k A) {index a : Nat} {fs : List Value} {x : Int32} (hk : Cond.fieldLink own index "DoorWalkModel" "rowMany" "I" ∈ TB) (q0 : Nat) (hq : ws[q0]? = some (a, .inr (8, fs))) (hl2 : 4 < fs.length) (hs : ws.set q0 (a, .inr (8, fs.set 4 (.int x))) = ws') (hd : decode cc pc = .ok (.putfield index, 3)) (kk : WW p l e R s m args below meth c Q nL D A cells slots ws' lv (pc + 3) (st)) : WW p l e R s m args below meth c Q nL D A cells slots ws lv (pc) (.int x :: .ref a :: st) := by
  subst hs
  exact fun H locs ls hP hD hS hl => va_put (D := D) (ci := 8) (v := .int x) (ty := .int) (C := RX8) (T := TX8) (N := 26) C.1 C.2.1 C.2.2.2.2.1 inX8 tyX8 tyX8_ok nmX8 C.2.2.2.1 C.2.2.2.2.2.1 hP hD hS q0 hq rfl 4 (by decide) (C.2.2.2.2.1 _ hk) (fun _ h9 => h9) rfl (by decide +kernel) rfl rfl hl2 hd (fun H1 locs1 hP hD hS => kk H1 locs1 ls hP hD hS hl)
theorem gf8_5 (C : CX p s m args c cc nL own D k A) {index a : Nat} {fs : List Value} {v : Value} (hk : Cond.fieldLink own index "DoorWalkModel" "thrown" "I" ∈ TB) (q0 : Nat) (hq : ws[q0]? = some (a, .inr (8, fs))) (hv : fs[5]? = some v) (hd : decode cc pc = .ok (.getfield index, 3)) (kk : WW p l e R s m args below meth c Q nL D A cells slots ws lv (pc + 3) (v :: st)) : WW p l e R s m args below meth c Q nL D A cells slots ws lv (pc) (.ref a :: st) := fun H locs ls hP hD hS hl => va_get (D := D) (ci := 8) (v := v) (C := RX8) (T := TX8) (N := 26) C.1 C.2.1 C.2.2.2.2.1 inX8 C.2.2.2.1 C.2.2.2.2.2.1 hP q0 hq rfl 5 (by decide) (C.2.2.2.2.1 _ hk) (fun _ h9 => h9) hv hd (kk H locs ls hP hD hS hl)
theorem pf8_5 (C : CX p s m args c cc nL own D k A) {index a : Nat} {fs : List Value} {x : Int32} (hk : Cond.fieldLink own index "DoorWalkModel" "thrown" "I" ∈ TB) (q0 : Nat) (hq : ws[q0]? = some (a, .inr (8, fs))) (hl2 : 5 < fs.length) (hs : ws.set q0 (a, .inr (8, fs.set 5 (.int x))) = ws') (hd : decode cc pc = .ok (.putfield index, 3)) (kk : WW p l e R s m args below meth c Q nL D A cells slots ws' lv (pc + 3) (st)) : WW p l e R s m args below meth c Q nL D A cells slots ws lv (pc) (.int x :: .ref a :: st) := by
  subst hs
  exact fun H locs ls hP hD hS hl => va_put (D := D) (ci := 8) (v := .int x) (ty := .int) (C := RX8) (T := TX8) (N := 26) C.1 C.2.1 C.2.2.2.2.1 inX8 tyX8 tyX8_ok nmX8 C.2.2.2.1 C.2.2.2.2.2.1 hP hD hS q0 hq rfl 5 (by decide) (C.2.2.2.2.1 _ hk) (fun _ h9 => h9) rfl (by decide +kernel) rfl rfl hl2 hd (fun H1 locs1 hP hD hS => kk H1 locs1 ls hP hD hS hl)
theorem gf8_6 (C : CX p s m args c cc nL own D k A) {index a : Nat} {fs : List Value} {v : Value} (hk : Cond.fieldLink own index "DoorWalkModel" "length" "I" ∈ TB) (q0 : Nat) (hq : ws[q0]? = some (a, .inr (8, fs))) (hv : fs[6]? = some v) (hd : decode cc pc = .ok (.getfield index, 3)) (kk : WW p l e R s m args below meth c Q nL D A cells slots ws lv (pc + 3) (v :: st)) : WW p l e R s m args below meth c Q nL D A cells slots ws lv (pc) (.ref a :: st) := fun H locs ls hP hD hS hl => va_get (D := D) (ci := 8) (v := v) (C := RX8) (T := TX8) (N := 26) C.1 C.2.1 C.2.2.2.2.1 inX8 C.2.2.2.1 C.2.2.2.2.2.1 hP q0 hq rfl 6 (by decide) (C.2.2.2.2.1 _ hk) (fun _ h9 => h9) hv hd (kk H locs ls hP hD hS hl)
theorem pf8_6 (C : CX p s m args c cc nL own D k A) {index a : Nat} {fs : List Value} {x : Int32} (hk : Cond.fieldLink own index "DoorWalkModel" "length" "I" ∈ TB) (q0 : Nat) (hq : ws[q0]? = some (a, .inr (8, fs))) (hl2 : 6 < fs.length) (hs : ws.set q0 (a, .inr (8, fs.set 6 (.int x))) = ws') (hd : decode cc pc = .ok (.putfield index, 3)) (kk : WW p l e R s m args below meth c Q nL D A cells slots ws' lv (pc + 3) (st)) : WW p l e R s m args below meth c Q nL D A cells slots ws lv (pc) (.int x :: .ref a :: st) := by
  subst hs
  exact fun H locs ls hP hD hS hl => va_put (D := D) (ci := 8) (v := .int x) (ty := .int) (C := RX8) (T := TX8) (N := 26) C.1 C.2.1 C.2.2.2.2.1 inX8 tyX8 tyX8_ok nmX8 C.2.2.2.1 C.2.2.2.2.2.1 hP hD hS q0 hq rfl 6 (by decide) (C.2.2.2.2.1 _ hk) (fun _ h9 => h9) rfl (by decide +kernel) rfl rfl hl2 hd (fun H1 locs1 hP hD hS => kk H1 locs1 ls hP hD hS hl)
theorem gf8_7 (C : CX p s m args c cc nL own D k A) {index a : Nat} {fs : List Value} {v : Value} (hk : Cond.fieldLink own index "DoorWalkModel" "at" "I" ∈ TB) (q0 : Nat) (hq : ws[q0]? = some (a, .inr (8, fs))) (hv : fs[7]? = some v) (hd : decode cc pc = .ok (.getfield index, 3)) (kk : WW p l e R s m args below meth c Q nL D A cells slots ws lv (pc + 3) (v :: st)) : WW p l e R s m args below meth c Q nL D A cells slots ws lv (pc) (.ref a :: st) := fun H locs ls hP hD hS hl => va_get (D := D) (ci := 8) (v := v) (C := RX8) (T := TX8) (N := 26) C.1 C.2.1 C.2.2.2.2.1 inX8 C.2.2.2.1 C.2.2.2.2.2.1 hP q0 hq rfl 7 (by decide) (C.2.2.2.2.1 _ hk) (fun _ h9 => h9) hv hd (kk H locs ls hP hD hS hl)
theorem pf8_7 (C : CX p s m args c cc nL own D k A) {index a : Nat} {fs : List Value} {x : Int32} (hk : Cond.fieldLink own index "DoorWalkModel" "at" "I" ∈ TB) (q0 : Nat) (hq : ws[q0]? = some (a, .inr (8, fs))) (hl2 : 7 < fs.length) (hs : ws.set q0 (a, .inr (8, fs.set 7 (.int x))) = ws') (hd : decode cc pc = .ok (.putfield index, 3)) (kk : WW p l e R s m args below meth c Q nL D A cells slots ws' lv (pc + 3) (st)) : WW p l e R s m args below meth c Q nL D A cells slots ws lv (pc) (.int x :: .ref a :: st) := by
  subst hs
  exact fun H locs ls hP hD hS hl => va_put (D := D) (ci := 8) (v := .int x) (ty := .int) (C := RX8) (T := TX8) (N := 26) C.1 C.2.1 C.2.2.2.2.1 inX8 tyX8 tyX8_ok nmX8 C.2.2.2.1 C.2.2.2.2.2.1 hP hD hS q0 hq rfl 7 (by decide) (C.2.2.2.2.1 _ hk) (fun _ h9 => h9) rfl (by decide +kernel) rfl rfl hl2 hd (fun H1 locs1 hP hD hS => kk H1 locs1 ls hP hD hS hl)
theorem gf8_8 (C : CX p s m args c cc nL own D k A) {index a : Nat} {fs : List Value} {v : Value} (hk : Cond.fieldLink own index "DoorWalkModel" "wrong" "I" ∈ TB) (q0 : Nat) (hq : ws[q0]? = some (a, .inr (8, fs))) (hv : fs[8]? = some v) (hd : decode cc pc = .ok (.getfield index, 3)) (kk : WW p l e R s m args below meth c Q nL D A cells slots ws lv (pc + 3) (v :: st)) : WW p l e R s m args below meth c Q nL D A cells slots ws lv (pc) (.ref a :: st) := fun H locs ls hP hD hS hl => va_get (D := D) (ci := 8) (v := v) (C := RX8) (T := TX8) (N := 26) C.1 C.2.1 C.2.2.2.2.1 inX8 C.2.2.2.1 C.2.2.2.2.2.1 hP q0 hq rfl 8 (by decide) (C.2.2.2.2.1 _ hk) (fun _ h9 => h9) hv hd (kk H locs ls hP hD hS hl)
theorem pf8_8 (C : CX p s m args c cc nL own D k A) {index a : Nat} {fs : List Value} {x : Int32} (hk : Cond.fieldLink own index "DoorWalkModel" "wrong" "I" ∈ TB) (q0 : Nat) (hq : ws[q0]? = some (a, .inr (8, fs))) (hl2 : 8 < fs.length) (hs : ws.set q0 (a, .inr (8, fs.set 8 (.int x))) = ws') (hd : decode cc pc = .ok (.putfield index, 3)) (kk : WW p l e R s m args below meth c Q nL D A cells slots ws' lv (pc + 3) (st)) : WW p l e R s m args below meth c Q nL D A cells slots ws lv (pc) (.int x :: .ref a :: st) := by
  subst hs
  exact fun H locs ls hP hD hS hl => va_put (D := D) (ci := 8) (v := .int x) (ty := .int) (C := RX8) (T := TX8) (N := 26) C.1 C.2.1 C.2.2.2.2.1 inX8 tyX8 tyX8_ok nmX8 C.2.2.2.1 C.2.2.2.2.2.1 hP hD hS q0 hq rfl 8 (by decide) (C.2.2.2.2.1 _ hk) (fun _ h9 => h9) rfl (by decide +kernel) rfl rfl hl2 hd (fun H1 locs1 hP hD hS => kk H1 locs1 ls hP hD hS hl)
theorem gf8_9 (C : CX p s m args c cc nL own D k A) {index a : Nat} {fs : List Value} {v : Value} (hk : Cond.fieldLink own index "DoorWalkModel" "read" "[I" ∈ TB) (q0 : Nat) (hq : ws[q0]? = some (a, .inr (8, fs))) (hv : fs[9]? = some v) (hd : decode cc pc = .ok (.getfield index, 3)) (kk : WW p l e R s m args below meth c Q nL D A cells slots ws lv (pc + 3) (v :: st)) : WW p l e R s m args below meth c Q nL D A cells slots ws lv (pc) (.ref a :: st) := fun H locs ls hP hD hS hl => va_get (D := D) (ci := 8) (v := v) (C := RX8) (T := TX8) (N := 26) C.1 C.2.1 C.2.2.2.2.1 inX8 C.2.2.2.1 C.2.2.2.2.2.1 hP q0 hq rfl 9 (by decide) (C.2.2.2.2.1 _ hk) (fun _ h9 => h9) hv hd (kk H locs ls hP hD hS hl)
theorem gf8_10 (C : CX p s m args c cc nL own D k A) {index a : Nat} {fs : List Value} {v : Value} (hk : Cond.fieldLink own index "DoorWalkModel" "outerCell" "[I" ∈ TB) (q0 : Nat) (hq : ws[q0]? = some (a, .inr (8, fs))) (hv : fs[10]? = some v) (hd : decode cc pc = .ok (.getfield index, 3)) (kk : WW p l e R s m args below meth c Q nL D A cells slots ws lv (pc + 3) (v :: st)) : WW p l e R s m args below meth c Q nL D A cells slots ws lv (pc) (.ref a :: st) := fun H locs ls hP hD hS hl => va_get (D := D) (ci := 8) (v := v) (C := RX8) (T := TX8) (N := 26) C.1 C.2.1 C.2.2.2.2.1 inX8 C.2.2.2.1 C.2.2.2.2.2.1 hP q0 hq rfl 10 (by decide) (C.2.2.2.2.1 _ hk) (fun _ h9 => h9) hv hd (kk H locs ls hP hD hS hl)
theorem gf8_11 (C : CX p s m args c cc nL own D k A) {index a : Nat} {fs : List Value} {v : Value} (hk : Cond.fieldLink own index "DoorWalkModel" "outerDoor" "[I" ∈ TB) (q0 : Nat) (hq : ws[q0]? = some (a, .inr (8, fs))) (hv : fs[11]? = some v) (hd : decode cc pc = .ok (.getfield index, 3)) (kk : WW p l e R s m args below meth c Q nL D A cells slots ws lv (pc + 3) (v :: st)) : WW p l e R s m args below meth c Q nL D A cells slots ws lv (pc) (.ref a :: st) := fun H locs ls hP hD hS hl => va_get (D := D) (ci := 8) (v := v) (C := RX8) (T := TX8) (N := 26) C.1 C.2.1 C.2.2.2.2.1 inX8 C.2.2.2.1 C.2.2.2.2.2.1 hP q0 hq rfl 11 (by decide) (C.2.2.2.2.1 _ hk) (fun _ h9 => h9) hv hd (kk H locs ls hP hD hS hl)
theorem gf8_12 (C : CX p s m args c cc nL own D k A) {index a : Nat} {fs : List Value} {v : Value} (hk : Cond.fieldLink own index "DoorWalkModel" "outerMany" "I" ∈ TB) (q0 : Nat) (hq : ws[q0]? = some (a, .inr (8, fs))) (hv : fs[12]? = some v) (hd : decode cc pc = .ok (.getfield index, 3)) (kk : WW p l e R s m args below meth c Q nL D A cells slots ws lv (pc + 3) (v :: st)) : WW p l e R s m args below meth c Q nL D A cells slots ws lv (pc) (.ref a :: st) := fun H locs ls hP hD hS hl => va_get (D := D) (ci := 8) (v := v) (C := RX8) (T := TX8) (N := 26) C.1 C.2.1 C.2.2.2.2.1 inX8 C.2.2.2.1 C.2.2.2.2.2.1 hP q0 hq rfl 12 (by decide) (C.2.2.2.2.1 _ hk) (fun _ h9 => h9) hv hd (kk H locs ls hP hD hS hl)
theorem pf8_12 (C : CX p s m args c cc nL own D k A) {index a : Nat} {fs : List Value} {x : Int32} (hk : Cond.fieldLink own index "DoorWalkModel" "outerMany" "I" ∈ TB) (q0 : Nat) (hq : ws[q0]? = some (a, .inr (8, fs))) (hl2 : 12 < fs.length) (hs : ws.set q0 (a, .inr (8, fs.set 12 (.int x))) = ws') (hd : decode cc pc = .ok (.putfield index, 3)) (kk : WW p l e R s m args below meth c Q nL D A cells slots ws' lv (pc + 3) (st)) : WW p l e R s m args below meth c Q nL D A cells slots ws lv (pc) (.int x :: .ref a :: st) := by
  subst hs
  exact fun H locs ls hP hD hS hl => va_put (D := D) (ci := 8) (v := .int x) (ty := .int) (C := RX8) (T := TX8) (N := 26) C.1 C.2.1 C.2.2.2.2.1 inX8 tyX8 tyX8_ok nmX8 C.2.2.2.1 C.2.2.2.2.2.1 hP hD hS q0 hq rfl 12 (by decide) (C.2.2.2.2.1 _ hk) (fun _ h9 => h9) rfl (by decide +kernel) rfl rfl hl2 hd (fun H1 locs1 hP hD hS => kk H1 locs1 ls hP hD hS hl)
theorem gf8_13 (C : CX p s m args c cc nL own D k A) {index a : Nat} {fs : List Value} {v : Value} (hk : Cond.fieldLink own index "DoorWalkModel" "walked" "[I" ∈ TB) (q0 : Nat) (hq : ws[q0]? = some (a, .inr (8, fs))) (hv : fs[13]? = some v) (hd : decode cc pc = .ok (.getfield index, 3)) (kk : WW p l e R s m args below meth c Q nL D A cells slots ws lv (pc + 3) (v :: st)) : WW p l e R s m args below meth c Q nL D A cells slots ws lv (pc) (.ref a :: st) := fun H locs ls hP hD hS hl => va_get (D := D) (ci := 8) (v := v) (C := RX8) (T := TX8) (N := 26) C.1 C.2.1 C.2.2.2.2.1 inX8 C.2.2.2.1 C.2.2.2.2.2.1 hP q0 hq rfl 13 (by decide) (C.2.2.2.2.1 _ hk) (fun _ h9 => h9) hv hd (kk H locs ls hP hD hS hl)
theorem gf8_14 (C : CX p s m args c cc nL own D k A) {index a : Nat} {fs : List Value} {v : Value} (hk : Cond.fieldLink own index "DoorWalkModel" "walkedMany" "I" ∈ TB) (q0 : Nat) (hq : ws[q0]? = some (a, .inr (8, fs))) (hv : fs[14]? = some v) (hd : decode cc pc = .ok (.getfield index, 3)) (kk : WW p l e R s m args below meth c Q nL D A cells slots ws lv (pc + 3) (v :: st)) : WW p l e R s m args below meth c Q nL D A cells slots ws lv (pc) (.ref a :: st) := fun H locs ls hP hD hS hl => va_get (D := D) (ci := 8) (v := v) (C := RX8) (T := TX8) (N := 26) C.1 C.2.1 C.2.2.2.2.1 inX8 C.2.2.2.1 C.2.2.2.2.2.1 hP q0 hq rfl 14 (by decide) (C.2.2.2.2.1 _ hk) (fun _ h9 => h9) hv hd (kk H locs ls hP hD hS hl)
theorem pf8_14 (C : CX p s m args c cc nL own D k A) {index a : Nat} {fs : List Value} {x : Int32} (hk : Cond.fieldLink own index "DoorWalkModel" "walkedMany" "I" ∈ TB) (q0 : Nat) (hq : ws[q0]? = some (a, .inr (8, fs))) (hl2 : 14 < fs.length) (hs : ws.set q0 (a, .inr (8, fs.set 14 (.int x))) = ws') (hd : decode cc pc = .ok (.putfield index, 3)) (kk : WW p l e R s m args below meth c Q nL D A cells slots ws' lv (pc + 3) (st)) : WW p l e R s m args below meth c Q nL D A cells slots ws lv (pc) (.int x :: .ref a :: st) := by
  subst hs
  exact fun H locs ls hP hD hS hl => va_put (D := D) (ci := 8) (v := .int x) (ty := .int) (C := RX8) (T := TX8) (N := 26) C.1 C.2.1 C.2.2.2.2.1 inX8 tyX8 tyX8_ok nmX8 C.2.2.2.1 C.2.2.2.2.2.1 hP hD hS q0 hq rfl 14 (by decide) (C.2.2.2.2.1 _ hk) (fun _ h9 => h9) rfl (by decide +kernel) rfl rfl hl2 hd (fun H1 locs1 hP hD hS => kk H1 locs1 ls hP hD hS hl)
theorem gf8_15 (C : CX p s m args c cc nL own D k A) {index a : Nat} {fs : List Value} {v : Value} (hk : Cond.fieldLink own index "DoorWalkModel" "cameOut" "I" ∈ TB) (q0 : Nat) (hq : ws[q0]? = some (a, .inr (8, fs))) (hv : fs[15]? = some v) (hd : decode cc pc = .ok (.getfield index, 3)) (kk : WW p l e R s m args below meth c Q nL D A cells slots ws lv (pc + 3) (v :: st)) : WW p l e R s m args below meth c Q nL D A cells slots ws lv (pc) (.ref a :: st) := fun H locs ls hP hD hS hl => va_get (D := D) (ci := 8) (v := v) (C := RX8) (T := TX8) (N := 26) C.1 C.2.1 C.2.2.2.2.1 inX8 C.2.2.2.1 C.2.2.2.2.2.1 hP q0 hq rfl 15 (by decide) (C.2.2.2.2.1 _ hk) (fun _ h9 => h9) hv hd (kk H locs ls hP hD hS hl)
theorem pf8_15 (C : CX p s m args c cc nL own D k A) {index a : Nat} {fs : List Value} {x : Int32} (hk : Cond.fieldLink own index "DoorWalkModel" "cameOut" "I" ∈ TB) (q0 : Nat) (hq : ws[q0]? = some (a, .inr (8, fs))) (hl2 : 15 < fs.length) (hs : ws.set q0 (a, .inr (8, fs.set 15 (.int x))) = ws') (hd : decode cc pc = .ok (.putfield index, 3)) (kk : WW p l e R s m args below meth c Q nL D A cells slots ws' lv (pc + 3) (st)) : WW p l e R s m args below meth c Q nL D A cells slots ws lv (pc) (.int x :: .ref a :: st) := by
  subst hs
  exact fun H locs ls hP hD hS hl => va_put (D := D) (ci := 8) (v := .int x) (ty := .int) (C := RX8) (T := TX8) (N := 26) C.1 C.2.1 C.2.2.2.2.1 inX8 tyX8 tyX8_ok nmX8 C.2.2.2.1 C.2.2.2.2.2.1 hP hD hS q0 hq rfl 15 (by decide) (C.2.2.2.2.1 _ hk) (fun _ h9 => h9) rfl (by decide +kernel) rfl rfl hl2 hd (fun H1 locs1 hP hD hS => kk H1 locs1 ls hP hD hS hl)
theorem gf8_16 (C : CX p s m args c cc nL own D k A) {index a : Nat} {fs : List Value} {v : Value} (hk : Cond.fieldLink own index "DoorWalkModel" "onWalks" "[I" ∈ TB) (q0 : Nat) (hq : ws[q0]? = some (a, .inr (8, fs))) (hv : fs[16]? = some v) (hd : decode cc pc = .ok (.getfield index, 3)) (kk : WW p l e R s m args below meth c Q nL D A cells slots ws lv (pc + 3) (v :: st)) : WW p l e R s m args below meth c Q nL D A cells slots ws lv (pc) (.ref a :: st) := fun H locs ls hP hD hS hl => va_get (D := D) (ci := 8) (v := v) (C := RX8) (T := TX8) (N := 26) C.1 C.2.1 C.2.2.2.2.1 inX8 C.2.2.2.1 C.2.2.2.2.2.1 hP q0 hq rfl 16 (by decide) (C.2.2.2.2.1 _ hk) (fun _ h9 => h9) hv hd (kk H locs ls hP hD hS hl)
theorem gf8_17 (C : CX p s m args c cc nL own D k A) {index a : Nat} {fs : List Value} {v : Value} (hk : Cond.fieldLink own index "DoorWalkModel" "far" "[I" ∈ TB) (q0 : Nat) (hq : ws[q0]? = some (a, .inr (8, fs))) (hv : fs[17]? = some v) (hd : decode cc pc = .ok (.getfield index, 3)) (kk : WW p l e R s m args below meth c Q nL D A cells slots ws lv (pc + 3) (v :: st)) : WW p l e R s m args below meth c Q nL D A cells slots ws lv (pc) (.ref a :: st) := fun H locs ls hP hD hS hl => va_get (D := D) (ci := 8) (v := v) (C := RX8) (T := TX8) (N := 26) C.1 C.2.1 C.2.2.2.2.1 inX8 C.2.2.2.1 C.2.2.2.2.2.1 hP q0 hq rfl 17 (by decide) (C.2.2.2.2.1 _ hk) (fun _ h9 => h9) hv hd (kk H locs ls hP hD hS hl)
theorem gf8_18 (C : CX p s m args c cc nL own D k A) {index a : Nat} {fs : List Value} {v : Value} (hk : Cond.fieldLink own index "DoorWalkModel" "aside" "[I" ∈ TB) (q0 : Nat) (hq : ws[q0]? = some (a, .inr (8, fs))) (hv : fs[18]? = some v) (hd : decode cc pc = .ok (.getfield index, 3)) (kk : WW p l e R s m args below meth c Q nL D A cells slots ws lv (pc + 3) (v :: st)) : WW p l e R s m args below meth c Q nL D A cells slots ws lv (pc) (.ref a :: st) := fun H locs ls hP hD hS hl => va_get (D := D) (ci := 8) (v := v) (C := RX8) (T := TX8) (N := 26) C.1 C.2.1 C.2.2.2.2.1 inX8 C.2.2.2.1 C.2.2.2.2.2.1 hP q0 hq rfl 18 (by decide) (C.2.2.2.2.1 _ hk) (fun _ h9 => h9) hv hd (kk H locs ls hP hD hS hl)
theorem gf8_19 (C : CX p s m args c cc nL own D k A) {index a : Nat} {fs : List Value} {v : Value} (hk : Cond.fieldLink own index "DoorWalkModel" "wasFull" "[Z" ∈ TB) (q0 : Nat) (hq : ws[q0]? = some (a, .inr (8, fs))) (hv : fs[19]? = some v) (hd : decode cc pc = .ok (.getfield index, 3)) (kk : WW p l e R s m args below meth c Q nL D A cells slots ws lv (pc + 3) (v :: st)) : WW p l e R s m args below meth c Q nL D A cells slots ws lv (pc) (.ref a :: st) := fun H locs ls hP hD hS hl => va_get (D := D) (ci := 8) (v := v) (C := RX8) (T := TX8) (N := 26) C.1 C.2.1 C.2.2.2.2.1 inX8 C.2.2.2.1 C.2.2.2.2.2.1 hP q0 hq rfl 19 (by decide) (C.2.2.2.2.1 _ hk) (fun _ h9 => h9) hv hd (kk H locs ls hP hD hS hl)
theorem gf8_20 (C : CX p s m args c cc nL own D k A) {index a : Nat} {fs : List Value} {v : Value} (hk : Cond.fieldLink own index "DoorWalkModel" "undos" "[I" ∈ TB) (q0 : Nat) (hq : ws[q0]? = some (a, .inr (8, fs))) (hv : fs[20]? = some v) (hd : decode cc pc = .ok (.getfield index, 3)) (kk : WW p l e R s m args below meth c Q nL D A cells slots ws lv (pc + 3) (v :: st)) : WW p l e R s m args below meth c Q nL D A cells slots ws lv (pc) (.ref a :: st) := fun H locs ls hP hD hS hl => va_get (D := D) (ci := 8) (v := v) (C := RX8) (T := TX8) (N := 26) C.1 C.2.1 C.2.2.2.2.1 inX8 C.2.2.2.1 C.2.2.2.2.2.1 hP q0 hq rfl 20 (by decide) (C.2.2.2.2.1 _ hk) (fun _ h9 => h9) hv hd (kk H locs ls hP hD hS hl)
theorem gf8_21 (C : CX p s m args c cc nL own D k A) {index a : Nat} {fs : List Value} {v : Value} (hk : Cond.fieldLink own index "DoorWalkModel" "was" "[I" ∈ TB) (q0 : Nat) (hq : ws[q0]? = some (a, .inr (8, fs))) (hv : fs[21]? = some v) (hd : decode cc pc = .ok (.getfield index, 3)) (kk : WW p l e R s m args below meth c Q nL D A cells slots ws lv (pc + 3) (v :: st)) : WW p l e R s m args below meth c Q nL D A cells slots ws lv (pc) (.ref a :: st) := fun H locs ls hP hD hS hl => va_get (D := D) (ci := 8) (v := v) (C := RX8) (T := TX8) (N := 26) C.1 C.2.1 C.2.2.2.2.1 inX8 C.2.2.2.1 C.2.2.2.2.2.1 hP q0 hq rfl 21 (by decide) (C.2.2.2.2.1 _ hk) (fun _ h9 => h9) hv hd (kk H locs ls hP hD hS hl)
theorem gf8_22 (C : CX p s m args c cc nL own D k A) {index a : Nat} {fs : List Value} {v : Value} (hk : Cond.fieldLink own index "DoorWalkModel" "undoMany" "I" ∈ TB) (q0 : Nat) (hq : ws[q0]? = some (a, .inr (8, fs))) (hv : fs[22]? = some v) (hd : decode cc pc = .ok (.getfield index, 3)) (kk : WW p l e R s m args below meth c Q nL D A cells slots ws lv (pc + 3) (v :: st)) : WW p l e R s m args below meth c Q nL D A cells slots ws lv (pc) (.ref a :: st) := fun H locs ls hP hD hS hl => va_get (D := D) (ci := 8) (v := v) (C := RX8) (T := TX8) (N := 26) C.1 C.2.1 C.2.2.2.2.1 inX8 C.2.2.2.1 C.2.2.2.2.2.1 hP q0 hq rfl 22 (by decide) (C.2.2.2.2.1 _ hk) (fun _ h9 => h9) hv hd (kk H locs ls hP hD hS hl)
theorem pf8_22 (C : CX p s m args c cc nL own D k A) {index a : Nat} {fs : List Value} {x : Int32} (hk : Cond.fieldLink own index "DoorWalkModel" "undoMany" "I" ∈ TB) (q0 : Nat) (hq : ws[q0]? = some (a, .inr (8, fs))) (hl2 : 22 < fs.length) (hs : ws.set q0 (a, .inr (8, fs.set 22 (.int x))) = ws') (hd : decode cc pc = .ok (.putfield index, 3)) (kk : WW p l e R s m args below meth c Q nL D A cells slots ws' lv (pc + 3) (st)) : WW p l e R s m args below meth c Q nL D A cells slots ws lv (pc) (.int x :: .ref a :: st) := by
  subst hs
  exact fun H locs ls hP hD hS hl => va_put (D := D) (ci := 8) (v := .int x) (ty := .int) (C := RX8) (T := TX8) (N := 26) C.1 C.2.1 C.2.2.2.2.1 inX8 tyX8 tyX8_ok nmX8 C.2.2.2.1 C.2.2.2.2.2.1 hP hD hS q0 hq rfl 22 (by decide) (C.2.2.2.2.1 _ hk) (fun _ h9 => h9) rfl (by decide +kernel) rfl rfl hl2 hd (fun H1 locs1 hP hD hS => kk H1 locs1 ls hP hD hS hl)
theorem gf8_23 (C : CX p s m args c cc nL own D k A) {index a : Nat} {fs : List Value} {v : Value} (hk : Cond.fieldLink own index "DoorWalkModel" "drawn" "I" ∈ TB) (q0 : Nat) (hq : ws[q0]? = some (a, .inr (8, fs))) (hv : fs[23]? = some v) (hd : decode cc pc = .ok (.getfield index, 3)) (kk : WW p l e R s m args below meth c Q nL D A cells slots ws lv (pc + 3) (v :: st)) : WW p l e R s m args below meth c Q nL D A cells slots ws lv (pc) (.ref a :: st) := fun H locs ls hP hD hS hl => va_get (D := D) (ci := 8) (v := v) (C := RX8) (T := TX8) (N := 26) C.1 C.2.1 C.2.2.2.2.1 inX8 C.2.2.2.1 C.2.2.2.2.2.1 hP q0 hq rfl 23 (by decide) (C.2.2.2.2.1 _ hk) (fun _ h9 => h9) hv hd (kk H locs ls hP hD hS hl)
theorem pf8_23 (C : CX p s m args c cc nL own D k A) {index a : Nat} {fs : List Value} {x : Int32} (hk : Cond.fieldLink own index "DoorWalkModel" "drawn" "I" ∈ TB) (q0 : Nat) (hq : ws[q0]? = some (a, .inr (8, fs))) (hl2 : 23 < fs.length) (hs : ws.set q0 (a, .inr (8, fs.set 23 (.int x))) = ws') (hd : decode cc pc = .ok (.putfield index, 3)) (kk : WW p l e R s m args below meth c Q nL D A cells slots ws' lv (pc + 3) (st)) : WW p l e R s m args below meth c Q nL D A cells slots ws lv (pc) (.int x :: .ref a :: st) := by
  subst hs
  exact fun H locs ls hP hD hS hl => va_put (D := D) (ci := 8) (v := .int x) (ty := .int) (C := RX8) (T := TX8) (N := 26) C.1 C.2.1 C.2.2.2.2.1 inX8 tyX8 tyX8_ok nmX8 C.2.2.2.1 C.2.2.2.2.2.1 hP hD hS q0 hq rfl 23 (by decide) (C.2.2.2.2.1 _ hk) (fun _ h9 => h9) rfl (by decide +kernel) rfl rfl hl2 hd (fun H1 locs1 hP hD hS => kk H1 locs1 ls hP hD hS hl)
theorem gf8_24 (C : CX p s m args c cc nL own D k A) {index a : Nat} {fs : List Value} {v : Value} (hk : Cond.fieldLink own index "DoorWalkModel" "kept" "[I" ∈ TB) (q0 : Nat) (hq : ws[q0]? = some (a, .inr (8, fs))) (hv : fs[24]? = some v) (hd : decode cc pc = .ok (.getfield index, 3)) (kk : WW p l e R s m args below meth c Q nL D A cells slots ws lv (pc + 3) (v :: st)) : WW p l e R s m args below meth c Q nL D A cells slots ws lv (pc) (.ref a :: st) := fun H locs ls hP hD hS hl => va_get (D := D) (ci := 8) (v := v) (C := RX8) (T := TX8) (N := 26) C.1 C.2.1 C.2.2.2.2.1 inX8 C.2.2.2.1 C.2.2.2.2.2.1 hP q0 hq rfl 24 (by decide) (C.2.2.2.2.1 _ hk) (fun _ h9 => h9) hv hd (kk H locs ls hP hD hS hl)
theorem gf8_25 (C : CX p s m args c cc nL own D k A) {index a : Nat} {fs : List Value} {v : Value} (hk : Cond.fieldLink own index "DoorWalkModel" "isKept" "[Z" ∈ TB) (q0 : Nat) (hq : ws[q0]? = some (a, .inr (8, fs))) (hv : fs[25]? = some v) (hd : decode cc pc = .ok (.getfield index, 3)) (kk : WW p l e R s m args below meth c Q nL D A cells slots ws lv (pc + 3) (v :: st)) : WW p l e R s m args below meth c Q nL D A cells slots ws lv (pc) (.ref a :: st) := fun H locs ls hP hD hS hl => va_get (D := D) (ci := 8) (v := v) (C := RX8) (T := TX8) (N := 26) C.1 C.2.1 C.2.2.2.2.1 inX8 C.2.2.2.1 C.2.2.2.2.2.1 hP q0 hq rfl 25 (by decide) (C.2.2.2.2.1 _ hk) (fun _ h9 => h9) hv hd (kk H locs ls hP hD hS hl)
end WWF
