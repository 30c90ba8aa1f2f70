/-! field entries of each class: by program -/
def flX0 : List (Nat × Nat × Nat × Nat) := [(9, 0, 0, 2), (15, 0, 1, 2), (18, 0, 2, 2), (22, 0, 3, 2), (25, 0, 4, 2)]
theorem foX0_9 : fldOk RX0 (9, 0, 0, 2) := ⟨RX0, TX0, 5, rfl, by decide, lw_gm 123 (by decide +kernel) rfl, (fun h => by cases h), (fun h => by cases h)⟩
theorem foX0_15 : fldOk RX0 (15, 0, 1, 2) := ⟨RX0, TX0, 5, rfl, by decide, lw_gm 127 (by decide +kernel) rfl, (fun h => by cases h), (fun h => by cases h)⟩
theorem foX0_18 : fldOk RX0 (18, 0, 2, 2) := ⟨RX0, TX0, 5, rfl, by decide, lw_gm 130 (by decide +kernel) rfl, (fun h => by cases h), (fun h => by cases h)⟩
theorem foX0_22 : fldOk RX0 (22, 0, 3, 2) := ⟨RX0, TX0, 5, rfl, by decide, lw_gm 133 (by decide +kernel) rfl, (fun h => by cases h), (fun h => by cases h)⟩
theorem foX0_25 : fldOk RX0 (25, 0, 4, 2) := ⟨RX0, TX0, 5, rfl, by decide, lw_gm 136 (by decide +kernel) rfl, (fun h => by cases h), (fun h => by cases h)⟩
theorem flX0_ok : ∀ f ∈ flX0, fldOk RX0 f := List.forall_mem_cons.mpr ⟨foX0_9, List.forall_mem_cons.mpr ⟨foX0_15, List.forall_mem_cons.mpr ⟨foX0_18, List.forall_mem_cons.mpr ⟨foX0_22, List.forall_mem_cons.mpr ⟨foX0_25, fun _ h => absurd h List.not_mem_nil⟩⟩⟩⟩⟩
def flX1 : List (Nat × Nat × Nat × Nat) := [(9, 1, 1, 0), (15, 1, 2, 0), (18, 1, 3, 2), (22, 1, 4, 2), (25, 1, 5, 2), (28, 1, 6, 2), (31, 1, 7, 2), (34, 1, 8, 2), (37, 1, 9, 2), (41, 1, 0, 0)]
theorem foX1_9 : fldOk RX1 (9, 1, 1, 0) := ⟨RX1, TX1, 10, rfl, by decide, lw_gm 159 (by decide +kernel) rfl, fun _ => ⟨rfl, rfl⟩, (fun h => by cases h)⟩
theorem foX1_15 : fldOk RX1 (15, 1, 2, 0) := ⟨RX1, TX1, 10, rfl, by decide, lw_gm 161 (by decide +kernel) rfl, fun _ => ⟨rfl, rfl⟩, (fun h => by cases h)⟩
theorem foX1_18 : fldOk RX1 (18, 1, 3, 2) := ⟨RX1, TX1, 10, rfl, by decide, lw_gm 163 (by decide +kernel) rfl, (fun h => by cases h), (fun h => by cases h)⟩
theorem foX1_22 : fldOk RX1 (22, 1, 4, 2) := ⟨RX1, TX1, 10, rfl, by decide, lw_gm 166 (by decide +kernel) rfl, (fun h => by cases h), (fun h => by cases h)⟩
theorem foX1_25 : fldOk RX1 (25, 1, 5, 2) := ⟨RX1, TX1, 10, rfl, by decide, lw_gm 168 (by decide +kernel) rfl, (fun h => by cases h), (fun h => by cases h)⟩
theorem foX1_28 : fldOk RX1 (28, 1, 6, 2) := ⟨RX1, TX1, 10, rfl, by decide, lw_gm 171 (by decide +kernel) rfl, (fun h => by cases h), (fun h => by cases h)⟩
theorem foX1_31 : fldOk RX1 (31, 1, 7, 2) := ⟨RX1, TX1, 10, rfl, by decide, lw_gm 173 (by decide +kernel) rfl, (fun h => by cases h), (fun h => by cases h)⟩
theorem foX1_34 : fldOk RX1 (34, 1, 8, 2) := ⟨RX1, TX1, 10, rfl, by decide, lw_gm 176 (by decide +kernel) rfl, (fun h => by cases h), (fun h => by cases h)⟩
theorem foX1_37 : fldOk RX1 (37, 1, 9, 2) := ⟨RX1, TX1, 10, rfl, by decide, lw_gm 177 (by decide +kernel) rfl, (fun h => by cases h), (fun h => by cases h)⟩
theorem foX1_41 : fldOk RX1 (41, 1, 0, 0) := ⟨RX1, TX1, 10, rfl, by decide, lw_gm 156 (by decide +kernel) rfl, fun _ => ⟨rfl, rfl⟩, (fun h => by cases h)⟩
theorem flX1_ok : ∀ f ∈ flX1, fldOk RX1 f := List.forall_mem_cons.mpr ⟨foX1_9, List.forall_mem_cons.mpr ⟨foX1_15, List.forall_mem_cons.mpr ⟨foX1_18, List.forall_mem_cons.mpr ⟨foX1_22, List.forall_mem_cons.mpr ⟨foX1_25, List.forall_mem_cons.mpr ⟨foX1_28, List.forall_mem_cons.mpr ⟨foX1_31, List.forall_mem_cons.mpr ⟨foX1_34, List.forall_mem_cons.mpr ⟨foX1_37, List.forall_mem_cons.mpr ⟨foX1_41, fun _ h => absurd h List.not_mem_nil⟩⟩⟩⟩⟩⟩⟩⟩⟩⟩
def flX2 : List (Nat × Nat × Nat × Nat) := [(9, 2, 1, 2), (15, 2, 2, 2), (18, 2, 3, 2), (21, 2, 4, 2), (24, 2, 5, 2), (27, 2, 6, 2), (30, 2, 7, 2), (33, 2, 8, 2), (36, 2, 9, 2), (39, 2, 10, 2), (42, 2, 11, 2), (45, 2, 0, 0)]
theorem foX2_9 : fldOk RX2 (9, 2, 1, 2) := ⟨RX2, TX2, 12, rfl, by decide, lw_gm 209 (by decide +kernel) rfl, (fun h => by cases h), (fun h => by cases h)⟩
theorem foX2_15 : fldOk RX2 (15, 2, 2, 2) := ⟨RX2, TX2, 12, rfl, by decide, lw_gm 212 (by decide +kernel) rfl, (fun h => by cases h), (fun h => by cases h)⟩
theorem foX2_18 : fldOk RX2 (18, 2, 3, 2) := ⟨RX2, TX2, 12, rfl, by decide, lw_gm 215 (by decide +kernel) rfl, (fun h => by cases h), (fun h => by cases h)⟩
theorem foX2_21 : fldOk RX2 (21, 2, 4, 2) := ⟨RX2, TX2, 12, rfl, by decide, lw_gm 218 (by decide +kernel) rfl, (fun h => by cases h), (fun h => by cases h)⟩
theorem foX2_24 : fldOk RX2 (24, 2, 5, 2) := ⟨RX2, TX2, 12, rfl, by decide, lw_gm 221 (by decide +kernel) rfl, (fun h => by cases h), (fun h => by cases h)⟩
theorem foX2_27 : fldOk RX2 (27, 2, 6, 2) := ⟨RX2, TX2, 12, rfl, by decide, lw_gm 224 (by decide +kernel) rfl, (fun h => by cases h), (fun h => by cases h)⟩
theorem foX2_30 : fldOk RX2 (30, 2, 7, 2) := ⟨RX2, TX2, 12, rfl, by decide, lw_gm 226 (by decide +kernel) rfl, (fun h => by cases h), (fun h => by cases h)⟩
theorem foX2_33 : fldOk RX2 (33, 2, 8, 2) := ⟨RX2, TX2, 12, rfl, by decide, lw_gm 229 (by decide +kernel) rfl, (fun h => by cases h), (fun h => by cases h)⟩
theorem foX2_36 : fldOk RX2 (36, 2, 9, 2) := ⟨RX2, TX2, 12, rfl, by decide, lw_gm 232 (by decide +kernel) rfl, (fun h => by cases h), (fun h => by cases h)⟩
theorem foX2_39 : fldOk RX2 (39, 2, 10, 2) := ⟨RX2, TX2, 12, rfl, by decide, lw_gm 235 (by decide +kernel) rfl, (fun h => by cases h), (fun h => by cases h)⟩
theorem foX2_42 : fldOk RX2 (42, 2, 11, 2) := ⟨RX2, TX2, 12, rfl, by decide, lw_gm 238 (by decide +kernel) rfl, (fun h => by cases h), (fun h => by cases h)⟩
theorem foX2_45 : fldOk RX2 (45, 2, 0, 0) := ⟨RX2, TX2, 12, rfl, by decide, lw_gm 206 (by decide +kernel) rfl, fun _ => ⟨rfl, rfl⟩, (fun h => by cases h)⟩
theorem flX2_ok : ∀ f ∈ flX2, fldOk RX2 f := List.forall_mem_cons.mpr ⟨foX2_9, List.forall_mem_cons.mpr ⟨foX2_15, List.forall_mem_cons.mpr ⟨foX2_18, List.forall_mem_cons.mpr ⟨foX2_21, List.forall_mem_cons.mpr ⟨foX2_24, List.forall_mem_cons.mpr ⟨foX2_27, List.forall_mem_cons.mpr ⟨foX2_30, List.forall_mem_cons.mpr ⟨foX2_33, List.forall_mem_cons.mpr ⟨foX2_36, List.forall_mem_cons.mpr ⟨foX2_39, List.forall_mem_cons.mpr ⟨foX2_42, List.forall_mem_cons.mpr ⟨foX2_45, fun _ h => absurd h List.not_mem_nil⟩⟩⟩⟩⟩⟩⟩⟩⟩⟩⟩⟩
def flX3 : List (Nat × Nat × Nat × Nat) := [(9, 3, 1, 2), (15, 3, 2, 2), (18, 3, 3, 2), (24, 3, 4, 2), (27, 3, 5, 2), (30, 3, 6, 2), (33, 3, 7, 2), (36, 3, 8, 2), (39, 3, 0, 0)]
theorem foX3_9 : fldOk RX3 (9, 3, 1, 2) := ⟨RX3, TX3, 9, rfl, by decide, lw_gm 71 (by decide +kernel) rfl, (fun h => by cases h), (fun h => by cases h)⟩
theorem foX3_15 : fldOk RX3 (15, 3, 2, 2) := ⟨RX3, TX3, 9, rfl, by decide, lw_gm 75 (by decide +kernel) rfl, (fun h => by cases h), (fun h => by cases h)⟩
theorem foX3_18 : fldOk RX3 (18, 3, 3, 2) := ⟨RX3, TX3, 9, rfl, by decide, lw_gm 78 (by decide +kernel) rfl, (fun h => by cases h), (fun h => by cases h)⟩
theorem foX3_24 : fldOk RX3 (24, 3, 4, 2) := ⟨RX3, TX3, 9, rfl, by decide, lw_gm 82 (by decide +kernel) rfl, (fun h => by cases h), (fun h => by cases h)⟩
theorem foX3_27 : fldOk RX3 (27, 3, 5, 2) := ⟨RX3, TX3, 9, rfl, by decide, lw_gm 84 (by decide +kernel) rfl, (fun h => by cases h), (fun h => by cases h)⟩
theorem foX3_30 : fldOk RX3 (30, 3, 6, 2) := ⟨RX3, TX3, 9, rfl, by decide, lw_gm 87 (by decide +kernel) rfl, (fun h => by cases h), (fun h => by cases h)⟩
theorem foX3_33 : fldOk RX3 (33, 3, 7, 2) := ⟨RX3, TX3, 9, rfl, by decide, lw_gm 90 (by decide +kernel) rfl, (fun h => by cases h), (fun h => by cases h)⟩
theorem foX3_36 : fldOk RX3 (36, 3, 8, 2) := ⟨RX3, TX3, 9, rfl, by decide, lw_gm 93 (by decide +kernel) rfl, (fun h => by cases h), (fun h => by cases h)⟩
theorem foX3_39 : fldOk RX3 (39, 3, 0, 0) := ⟨RX3, TX3, 9, rfl, by decide, lw_gm 67 (by decide +kernel) rfl, fun _ => ⟨rfl, rfl⟩, (fun h => by cases h)⟩
theorem flX3_ok : ∀ f ∈ flX3, fldOk RX3 f := List.forall_mem_cons.mpr ⟨foX3_9, List.forall_mem_cons.mpr ⟨foX3_15, List.forall_mem_cons.mpr ⟨foX3_18, List.forall_mem_cons.mpr ⟨foX3_24, List.forall_mem_cons.mpr ⟨foX3_27, List.forall_mem_cons.mpr ⟨foX3_30, List.forall_mem_cons.mpr ⟨foX3_33, List.forall_mem_cons.mpr ⟨foX3_36, List.forall_mem_cons.mpr ⟨foX3_39, fun _ h => absurd h List.not_mem_nil⟩⟩⟩⟩⟩⟩⟩⟩⟩
def flX4 : List (Nat × Nat × Nat × Nat) := [(9, 4, 1, 2), (15, 4, 5, 2), (18, 4, 6, 2), (21, 4, 7, 2), (24, 4, 2, 2), (28, 4, 3, 2), (32, 4, 4, 2), (36, 1, 0, 0), (42, 0, 0, 2), (51, 1, 3, 2), (58, 3, 0, 0), (61, 3, 3, 2), (72, 4, 10, 0), (75, 4, 8, 0), (78, 4, 9, 0), (81, 3, 1, 2), (87, 4, 11, 0), (107, 4, 0, 1)]
theorem foX4_9 : fldOk RX4 (9, 4, 1, 2) := ⟨RX4, TX4, 12, rfl, by decide, lw_gm 304 (by decide +kernel) rfl, (fun h => by cases h), (fun h => by cases h)⟩
theorem foX4_15 : fldOk RX4 (15, 4, 5, 2) := ⟨RX4, TX4, 12, rfl, by decide, lw_gm 309 (by decide +kernel) rfl, (fun h => by cases h), (fun h => by cases h)⟩
theorem foX4_18 : fldOk RX4 (18, 4, 6, 2) := ⟨RX4, TX4, 12, rfl, by decide, lw_gm 310 (by decide +kernel) rfl, (fun h => by cases h), (fun h => by cases h)⟩
theorem foX4_21 : fldOk RX4 (21, 4, 7, 2) := ⟨RX4, TX4, 12, rfl, by decide, lw_gm 311 (by decide +kernel) rfl, (fun h => by cases h), (fun h => by cases h)⟩
theorem foX4_24 : fldOk RX4 (24, 4, 2, 2) := ⟨RX4, TX4, 12, rfl, by decide, lw_gm 306 (by decide +kernel) rfl, (fun h => by cases h), (fun h => by cases h)⟩
theorem foX4_28 : fldOk RX4 (28, 4, 3, 2) := ⟨RX4, TX4, 12, rfl, by decide, lw_gm 307 (by decide +kernel) rfl, (fun h => by cases h), (fun h => by cases h)⟩
theorem foX4_32 : fldOk RX4 (32, 4, 4, 2) := ⟨RX4, TX4, 12, rfl, by decide, lw_gm 308 (by decide +kernel) rfl, (fun h => by cases h), (fun h => by cases h)⟩
theorem foX4_36 : fldOk RX4 (36, 1, 0, 0) := ⟨RX1, TX1, 10, rfl, by decide, lw_gm 157 (by decide +kernel) rfl, fun _ => ⟨rfl, rfl⟩, (fun h => by cases h)⟩
theorem foX4_42 : fldOk RX4 (42, 0, 0, 2) := ⟨RX0, TX0, 5, rfl, by decide, lw_gm 124 (by decide +kernel) rfl, (fun h => by cases h), (fun h => by cases h)⟩
theorem foX4_51 : fldOk RX4 (51, 1, 3, 2) := ⟨RX1, TX1, 10, rfl, by decide, lw_gm 164 (by decide +kernel) rfl, (fun h => by cases h), (fun h => by cases h)⟩
theorem foX4_58 : fldOk RX4 (58, 3, 0, 0) := ⟨RX3, TX3, 9, rfl, by decide, lw_gm 69 (by decide +kernel) rfl, fun _ => ⟨rfl, rfl⟩, (fun h => by cases h)⟩
theorem foX4_61 : fldOk RX4 (61, 3, 3, 2) := ⟨RX3, TX3, 9, rfl, by decide, lw_gm 79 (by decide +kernel) rfl, (fun h => by cases h), (fun h => by cases h)⟩
theorem foX4_72 : fldOk RX4 (72, 4, 10, 0) := ⟨RX4, TX4, 12, rfl, by decide, lw_gm 314 (by decide +kernel) rfl, fun _ => ⟨rfl, rfl⟩, (fun h => by cases h)⟩
theorem foX4_75 : fldOk RX4 (75, 4, 8, 0) := ⟨RX4, TX4, 12, rfl, by decide, lw_gm 312 (by decide +kernel) rfl, fun _ => ⟨rfl, rfl⟩, (fun h => by cases h)⟩
theorem foX4_78 : fldOk RX4 (78, 4, 9, 0) := ⟨RX4, TX4, 12, rfl, by decide, lw_gm 313 (by decide +kernel) rfl, fun _ => ⟨rfl, rfl⟩, (fun h => by cases h)⟩
theorem foX4_81 : fldOk RX4 (81, 3, 1, 2) := ⟨RX3, TX3, 9, rfl, by decide, lw_gm 72 (by decide +kernel) rfl, (fun h => by cases h), (fun h => by cases h)⟩
theorem foX4_87 : fldOk RX4 (87, 4, 11, 0) := ⟨RX4, TX4, 12, rfl, by decide, lw_gm 315 (by decide +kernel) rfl, fun _ => ⟨rfl, rfl⟩, (fun h => by cases h)⟩
theorem foX4_107 : fldOk RX4 (107, 4, 0, 1) := ⟨RX4, TX4, 12, rfl, by decide, lw_gm 302 (by decide +kernel) rfl, (fun h => by cases h), fun _ => ⟨rfl, rfl⟩⟩
theorem flX4_ok : ∀ f ∈ flX4, fldOk RX4 f := List.forall_mem_cons.mpr ⟨foX4_9, List.forall_mem_cons.mpr ⟨foX4_15, List.forall_mem_cons.mpr ⟨foX4_18, List.forall_mem_cons.mpr ⟨foX4_21, List.forall_mem_cons.mpr ⟨foX4_24, List.forall_mem_cons.mpr ⟨foX4_28, List.forall_mem_cons.mpr ⟨foX4_32, List.forall_mem_cons.mpr ⟨foX4_36, List.forall_mem_cons.mpr ⟨foX4_42, List.forall_mem_cons.mpr ⟨foX4_51, List.forall_mem_cons.mpr ⟨foX4_58, List.forall_mem_cons.mpr ⟨foX4_61, List.forall_mem_cons.mpr ⟨foX4_72, List.forall_mem_cons.mpr ⟨foX4_75, List.forall_mem_cons.mpr ⟨foX4_78, List.forall_mem_cons.mpr ⟨foX4_81, List.forall_mem_cons.mpr ⟨foX4_87, List.forall_mem_cons.mpr ⟨foX4_107, fun _ h => absurd h List.not_mem_nil⟩⟩⟩⟩⟩⟩⟩⟩⟩⟩⟩⟩⟩⟩⟩⟩⟩⟩
def flX5 : List (Nat × Nat × Nat × Nat) := [(9, 5, 6, 2), (15, 5, 2, 2), (19, 5, 3, 2), (23, 5, 4, 2), (27, 5, 5, 2), (31, 2, 0, 0), (43, 1, 5, 2), (47, 5, 0, 0), (54, 0, 2, 2), (59, 0, 0, 2), (62, 0, 3, 2), (69, 3, 7, 2), (74, 3, 4, 2), (78, 2, 5, 2), (91, 3, 0, 0), (92, 3, 3, 2), (102, 2, 11, 2), (115, 3, 6, 2), (118, 3, 1, 2), (127, 2, 7, 2), (130, 2, 8, 2), (133, 3, 2, 2), (136, 3, 8, 2), (139, 3, 5, 2), (142, 5, 1, 1), (149, 2, 1, 2), (152, 2, 4, 2), (155, 2, 10, 2), (158, 2, 9, 2), (161, 2, 2, 2), (167, 0, 1, 2), (177, 2, 3, 2), (180, 0, 4, 2), (196, 1, 7, 2)]
theorem foX5_9 : fldOk RX5 (9, 5, 6, 2) := ⟨RX5, TX5, 7, rfl, by decide, lw_gm 280 (by decide +kernel) rfl, (fun h => by cases h), (fun h => by cases h)⟩
theorem foX5_15 : fldOk RX5 (15, 5, 2, 2) := ⟨RX5, TX5, 7, rfl, by decide, lw_gm 276 (by decide +kernel) rfl, (fun h => by cases h), (fun h => by cases h)⟩
theorem foX5_19 : fldOk RX5 (19, 5, 3, 2) := ⟨RX5, TX5, 7, rfl, by decide, lw_gm 277 (by decide +kernel) rfl, (fun h => by cases h), (fun h => by cases h)⟩
theorem foX5_23 : fldOk RX5 (23, 5, 4, 2) := ⟨RX5, TX5, 7, rfl, by decide, lw_gm 278 (by decide +kernel) rfl, (fun h => by cases h), (fun h => by cases h)⟩
theorem foX5_27 : fldOk RX5 (27, 5, 5, 2) := ⟨RX5, TX5, 7, rfl, by decide, lw_gm 279 (by decide +kernel) rfl, (fun h => by cases h), (fun h => by cases h)⟩
theorem foX5_31 : fldOk RX5 (31, 2, 0, 0) := ⟨RX2, TX2, 12, rfl, by decide, lw_gm 207 (by decide +kernel) rfl, fun _ => ⟨rfl, rfl⟩, (fun h => by cases h)⟩
theorem foX5_43 : fldOk RX5 (43, 1, 5, 2) := ⟨RX1, TX1, 10, rfl, by decide, lw_gm 169 (by decide +kernel) rfl, (fun h => by cases h), (fun h => by cases h)⟩
theorem foX5_47 : fldOk RX5 (47, 5, 0, 0) := ⟨RX5, TX5, 7, rfl, by decide, lw_gm 272 (by decide +kernel) rfl, fun _ => ⟨rfl, rfl⟩, (fun h => by cases h)⟩
theorem foX5_54 : fldOk RX5 (54, 0, 2, 2) := ⟨RX0, TX0, 5, rfl, by decide, lw_gm 131 (by decide +kernel) rfl, (fun h => by cases h), (fun h => by cases h)⟩
theorem foX5_59 : fldOk RX5 (59, 0, 0, 2) := ⟨RX0, TX0, 5, rfl, by decide, lw_gm 125 (by decide +kernel) rfl, (fun h => by cases h), (fun h => by cases h)⟩
theorem foX5_62 : fldOk RX5 (62, 0, 3, 2) := ⟨RX0, TX0, 5, rfl, by decide, lw_gm 134 (by decide +kernel) rfl, (fun h => by cases h), (fun h => by cases h)⟩
theorem foX5_69 : fldOk RX5 (69, 3, 7, 2) := ⟨RX3, TX3, 9, rfl, by decide, lw_gm 91 (by decide +kernel) rfl, (fun h => by cases h), (fun h => by cases h)⟩
theorem foX5_74 : fldOk RX5 (74, 3, 4, 2) := ⟨RX3, TX3, 9, rfl, by decide, lw_gm 83 (by decide +kernel) rfl, (fun h => by cases h), (fun h => by cases h)⟩
theorem foX5_78 : fldOk RX5 (78, 2, 5, 2) := ⟨RX2, TX2, 12, rfl, by decide, lw_gm 222 (by decide +kernel) rfl, (fun h => by cases h), (fun h => by cases h)⟩
theorem foX5_91 : fldOk RX5 (91, 3, 0, 0) := ⟨RX3, TX3, 9, rfl, by decide, lw_gm 70 (by decide +kernel) rfl, fun _ => ⟨rfl, rfl⟩, (fun h => by cases h)⟩
theorem foX5_92 : fldOk RX5 (92, 3, 3, 2) := ⟨RX3, TX3, 9, rfl, by decide, lw_gm 80 (by decide +kernel) rfl, (fun h => by cases h), (fun h => by cases h)⟩
theorem foX5_102 : fldOk RX5 (102, 2, 11, 2) := ⟨RX2, TX2, 12, rfl, by decide, lw_gm 239 (by decide +kernel) rfl, (fun h => by cases h), (fun h => by cases h)⟩
theorem foX5_115 : fldOk RX5 (115, 3, 6, 2) := ⟨RX3, TX3, 9, rfl, by decide, lw_gm 88 (by decide +kernel) rfl, (fun h => by cases h), (fun h => by cases h)⟩
theorem foX5_118 : fldOk RX5 (118, 3, 1, 2) := ⟨RX3, TX3, 9, rfl, by decide, lw_gm 73 (by decide +kernel) rfl, (fun h => by cases h), (fun h => by cases h)⟩
theorem foX5_127 : fldOk RX5 (127, 2, 7, 2) := ⟨RX2, TX2, 12, rfl, by decide, lw_gm 227 (by decide +kernel) rfl, (fun h => by cases h), (fun h => by cases h)⟩
theorem foX5_130 : fldOk RX5 (130, 2, 8, 2) := ⟨RX2, TX2, 12, rfl, by decide, lw_gm 230 (by decide +kernel) rfl, (fun h => by cases h), (fun h => by cases h)⟩
theorem foX5_133 : fldOk RX5 (133, 3, 2, 2) := ⟨RX3, TX3, 9, rfl, by decide, lw_gm 76 (by decide +kernel) rfl, (fun h => by cases h), (fun h => by cases h)⟩
theorem foX5_136 : fldOk RX5 (136, 3, 8, 2) := ⟨RX3, TX3, 9, rfl, by decide, lw_gm 94 (by decide +kernel) rfl, (fun h => by cases h), (fun h => by cases h)⟩
theorem foX5_139 : fldOk RX5 (139, 3, 5, 2) := ⟨RX3, TX3, 9, rfl, by decide, lw_gm 85 (by decide +kernel) rfl, (fun h => by cases h), (fun h => by cases h)⟩
theorem foX5_142 : fldOk RX5 (142, 5, 1, 1) := ⟨RX5, TX5, 7, rfl, by decide, lw_gm 275 (by decide +kernel) rfl, (fun h => by cases h), fun _ => ⟨rfl, rfl⟩⟩
theorem foX5_149 : fldOk RX5 (149, 2, 1, 2) := ⟨RX2, TX2, 12, rfl, by decide, lw_gm 210 (by decide +kernel) rfl, (fun h => by cases h), (fun h => by cases h)⟩
theorem foX5_152 : fldOk RX5 (152, 2, 4, 2) := ⟨RX2, TX2, 12, rfl, by decide, lw_gm 219 (by decide +kernel) rfl, (fun h => by cases h), (fun h => by cases h)⟩
theorem foX5_155 : fldOk RX5 (155, 2, 10, 2) := ⟨RX2, TX2, 12, rfl, by decide, lw_gm 236 (by decide +kernel) rfl, (fun h => by cases h), (fun h => by cases h)⟩
theorem foX5_158 : fldOk RX5 (158, 2, 9, 2) := ⟨RX2, TX2, 12, rfl, by decide, lw_gm 233 (by decide +kernel) rfl, (fun h => by cases h), (fun h => by cases h)⟩
theorem foX5_161 : fldOk RX5 (161, 2, 2, 2) := ⟨RX2, TX2, 12, rfl, by decide, lw_gm 213 (by decide +kernel) rfl, (fun h => by cases h), (fun h => by cases h)⟩
theorem foX5_167 : fldOk RX5 (167, 0, 1, 2) := ⟨RX0, TX0, 5, rfl, by decide, lw_gm 128 (by decide +kernel) rfl, (fun h => by cases h), (fun h => by cases h)⟩
theorem foX5_177 : fldOk RX5 (177, 2, 3, 2) := ⟨RX2, TX2, 12, rfl, by decide, lw_gm 216 (by decide +kernel) rfl, (fun h => by cases h), (fun h => by cases h)⟩
theorem foX5_180 : fldOk RX5 (180, 0, 4, 2) := ⟨RX0, TX0, 5, rfl, by decide, lw_gm 137 (by decide +kernel) rfl, (fun h => by cases h), (fun h => by cases h)⟩
theorem foX5_196 : fldOk RX5 (196, 1, 7, 2) := ⟨RX1, TX1, 10, rfl, by decide, lw_gm 174 (by decide +kernel) rfl, (fun h => by cases h), (fun h => by cases h)⟩
theorem flX5_ok : ∀ f ∈ flX5, fldOk RX5 f := List.forall_mem_cons.mpr ⟨foX5_9, List.forall_mem_cons.mpr ⟨foX5_15, List.forall_mem_cons.mpr ⟨foX5_19, List.forall_mem_cons.mpr ⟨foX5_23, List.forall_mem_cons.mpr ⟨foX5_27, List.forall_mem_cons.mpr ⟨foX5_31, List.forall_mem_cons.mpr ⟨foX5_43, List.forall_mem_cons.mpr ⟨foX5_47, List.forall_mem_cons.mpr ⟨foX5_54, List.forall_mem_cons.mpr ⟨foX5_59, List.forall_mem_cons.mpr ⟨foX5_62, List.forall_mem_cons.mpr ⟨foX5_69, List.forall_mem_cons.mpr ⟨foX5_74, List.forall_mem_cons.mpr ⟨foX5_78, List.forall_mem_cons.mpr ⟨foX5_91, List.forall_mem_cons.mpr ⟨foX5_92, List.forall_mem_cons.mpr ⟨foX5_102, List.forall_mem_cons.mpr ⟨foX5_115, List.forall_mem_cons.mpr ⟨foX5_118, List.forall_mem_cons.mpr ⟨foX5_127, List.forall_mem_cons.mpr ⟨foX5_130, List.forall_mem_cons.mpr ⟨foX5_133, List.forall_mem_cons.mpr ⟨foX5_136, List.forall_mem_cons.mpr ⟨foX5_139, List.forall_mem_cons.mpr ⟨foX5_142, List.forall_mem_cons.mpr ⟨foX5_149, List.forall_mem_cons.mpr ⟨foX5_152, List.forall_mem_cons.mpr ⟨foX5_155, List.forall_mem_cons.mpr ⟨foX5_158, List.forall_mem_cons.mpr ⟨foX5_161, List.forall_mem_cons.mpr ⟨foX5_167, List.forall_mem_cons.mpr ⟨foX5_177, List.forall_mem_cons.mpr ⟨foX5_180, List.forall_mem_cons.mpr ⟨foX5_196, fun _ h => absurd h List.not_mem_nil⟩⟩⟩⟩⟩⟩⟩⟩⟩⟩⟩⟩⟩⟩⟩⟩⟩⟩⟩⟩⟩⟩⟩⟩⟩⟩⟩⟩⟩⟩⟩⟩⟩⟩
def flX6 : List (Nat × Nat × Nat × Nat) := [(10, 6, 0, 2), (19, 6, 1, 2), (26, 6, 2, 2), (33, 6, 3, 2), (42, 6, 4, 2), (51, 6, 5, 2), (59, 3, 0, 0), (71, 1, 0, 0), (78, 1, 3, 2), (89, 1, 4, 2), (95, 1, 1, 0), (98, 1, 2, 0), (101, 5, 1, 1), (109, 2, 0, 0), (114, 5, 0, 0), (123, 0, 0, 2), (129, 3, 3, 2), (136, 0, 1, 2), (145, 2, 1, 2), (148, 2, 2, 2), (151, 2, 3, 2), (154, 2, 4, 2), (157, 2, 5, 2), (160, 2, 6, 2), (163, 2, 7, 2), (166, 2, 8, 2), (169, 2, 9, 2), (172, 3, 1, 2), (175, 3, 2, 2), (178, 3, 7, 2), (181, 3, 6, 2), (184, 3, 5, 2), (193, 3, 8, 2), (196, 0, 2, 2), (199, 0, 3, 2), (205, 0, 4, 2), (208, 1, 5, 2), (211, 1, 6, 2), (214, 1, 7, 2), (217, 2, 11, 2), (220, 2, 10, 2), (223, 1, 9, 2), (235, 4, 0, 1), (238, 4, 1, 2)]
theorem foX6_10 : fldOk RX6 (10, 6, 0, 2) := ⟨RX6, TX6, 6, rfl, by decide, lw_gm 341 (by decide +kernel) rfl, (fun h => by cases h), (fun h => by cases h)⟩
theorem foX6_19 : fldOk RX6 (19, 6, 1, 2) := ⟨RX6, TX6, 6, rfl, by decide, lw_gm 342 (by decide +kernel) rfl, (fun h => by cases h), (fun h => by cases h)⟩
theorem foX6_26 : fldOk RX6 (26, 6, 2, 2) := ⟨RX6, TX6, 6, rfl, by decide, lw_gm 343 (by decide +kernel) rfl, (fun h => by cases h), (fun h => by cases h)⟩
theorem foX6_33 : fldOk RX6 (33, 6, 3, 2) := ⟨RX6, TX6, 6, rfl, by decide, lw_gm 344 (by decide +kernel) rfl, (fun h => by cases h), (fun h => by cases h)⟩
theorem foX6_42 : fldOk RX6 (42, 6, 4, 2) := ⟨RX6, TX6, 6, rfl, by decide, lw_gm 345 (by decide +kernel) rfl, (fun h => by cases h), (fun h => by cases h)⟩
theorem foX6_51 : fldOk RX6 (51, 6, 5, 2) := ⟨RX6, TX6, 6, rfl, by decide, lw_gm 346 (by decide +kernel) rfl, (fun h => by cases h), (fun h => by cases h)⟩
theorem foX6_59 : fldOk RX6 (59, 3, 0, 0) := ⟨RX3, TX3, 9, rfl, by decide, lw_gm 68 (by decide +kernel) rfl, fun _ => ⟨rfl, rfl⟩, (fun h => by cases h)⟩
theorem foX6_71 : fldOk RX6 (71, 1, 0, 0) := ⟨RX1, TX1, 10, rfl, by decide, lw_gm 158 (by decide +kernel) rfl, fun _ => ⟨rfl, rfl⟩, (fun h => by cases h)⟩
theorem foX6_78 : fldOk RX6 (78, 1, 3, 2) := ⟨RX1, TX1, 10, rfl, by decide, lw_gm 165 (by decide +kernel) rfl, (fun h => by cases h), (fun h => by cases h)⟩
theorem foX6_89 : fldOk RX6 (89, 1, 4, 2) := ⟨RX1, TX1, 10, rfl, by decide, lw_gm 167 (by decide +kernel) rfl, (fun h => by cases h), (fun h => by cases h)⟩
theorem foX6_95 : fldOk RX6 (95, 1, 1, 0) := ⟨RX1, TX1, 10, rfl, by decide, lw_gm 160 (by decide +kernel) rfl, fun _ => ⟨rfl, rfl⟩, (fun h => by cases h)⟩
theorem foX6_98 : fldOk RX6 (98, 1, 2, 0) := ⟨RX1, TX1, 10, rfl, by decide, lw_gm 162 (by decide +kernel) rfl, fun _ => ⟨rfl, rfl⟩, (fun h => by cases h)⟩
theorem foX6_101 : fldOk RX6 (101, 5, 1, 1) := ⟨RX5, TX5, 7, rfl, by decide, lw_gm 274 (by decide +kernel) rfl, (fun h => by cases h), fun _ => ⟨rfl, rfl⟩⟩
theorem foX6_109 : fldOk RX6 (109, 2, 0, 0) := ⟨RX2, TX2, 12, rfl, by decide, lw_gm 208 (by decide +kernel) rfl, fun _ => ⟨rfl, rfl⟩, (fun h => by cases h)⟩
theorem foX6_114 : fldOk RX6 (114, 5, 0, 0) := ⟨RX5, TX5, 7, rfl, by decide, lw_gm 273 (by decide +kernel) rfl, fun _ => ⟨rfl, rfl⟩, (fun h => by cases h)⟩
theorem foX6_123 : fldOk RX6 (123, 0, 0, 2) := ⟨RX0, TX0, 5, rfl, by decide, lw_gm 126 (by decide +kernel) rfl, (fun h => by cases h), (fun h => by cases h)⟩
theorem foX6_129 : fldOk RX6 (129, 3, 3, 2) := ⟨RX3, TX3, 9, rfl, by decide, lw_gm 81 (by decide +kernel) rfl, (fun h => by cases h), (fun h => by cases h)⟩
theorem foX6_136 : fldOk RX6 (136, 0, 1, 2) := ⟨RX0, TX0, 5, rfl, by decide, lw_gm 129 (by decide +kernel) rfl, (fun h => by cases h), (fun h => by cases h)⟩
theorem foX6_145 : fldOk RX6 (145, 2, 1, 2) := ⟨RX2, TX2, 12, rfl, by decide, lw_gm 211 (by decide +kernel) rfl, (fun h => by cases h), (fun h => by cases h)⟩
theorem foX6_148 : fldOk RX6 (148, 2, 2, 2) := ⟨RX2, TX2, 12, rfl, by decide, lw_gm 214 (by decide +kernel) rfl, (fun h => by cases h), (fun h => by cases h)⟩
theorem foX6_151 : fldOk RX6 (151, 2, 3, 2) := ⟨RX2, TX2, 12, rfl, by decide, lw_gm 217 (by decide +kernel) rfl, (fun h => by cases h), (fun h => by cases h)⟩
theorem foX6_154 : fldOk RX6 (154, 2, 4, 2) := ⟨RX2, TX2, 12, rfl, by decide, lw_gm 220 (by decide +kernel) rfl, (fun h => by cases h), (fun h => by cases h)⟩
theorem foX6_157 : fldOk RX6 (157, 2, 5, 2) := ⟨RX2, TX2, 12, rfl, by decide, lw_gm 223 (by decide +kernel) rfl, (fun h => by cases h), (fun h => by cases h)⟩
theorem foX6_160 : fldOk RX6 (160, 2, 6, 2) := ⟨RX2, TX2, 12, rfl, by decide, lw_gm 225 (by decide +kernel) rfl, (fun h => by cases h), (fun h => by cases h)⟩
theorem foX6_163 : fldOk RX6 (163, 2, 7, 2) := ⟨RX2, TX2, 12, rfl, by decide, lw_gm 228 (by decide +kernel) rfl, (fun h => by cases h), (fun h => by cases h)⟩
theorem foX6_166 : fldOk RX6 (166, 2, 8, 2) := ⟨RX2, TX2, 12, rfl, by decide, lw_gm 231 (by decide +kernel) rfl, (fun h => by cases h), (fun h => by cases h)⟩
theorem foX6_169 : fldOk RX6 (169, 2, 9, 2) := ⟨RX2, TX2, 12, rfl, by decide, lw_gm 234 (by decide +kernel) rfl, (fun h => by cases h), (fun h => by cases h)⟩
theorem foX6_172 : fldOk RX6 (172, 3, 1, 2) := ⟨RX3, TX3, 9, rfl, by decide, lw_gm 74 (by decide +kernel) rfl, (fun h => by cases h), (fun h => by cases h)⟩
theorem foX6_175 : fldOk RX6 (175, 3, 2, 2) := ⟨RX3, TX3, 9, rfl, by decide, lw_gm 77 (by decide +kernel) rfl, (fun h => by cases h), (fun h => by cases h)⟩
theorem foX6_178 : fldOk RX6 (178, 3, 7, 2) := ⟨RX3, TX3, 9, rfl, by decide, lw_gm 92 (by decide +kernel) rfl, (fun h => by cases h), (fun h => by cases h)⟩
theorem foX6_181 : fldOk RX6 (181, 3, 6, 2) := ⟨RX3, TX3, 9, rfl, by decide, lw_gm 89 (by decide +kernel) rfl, (fun h => by cases h), (fun h => by cases h)⟩
theorem foX6_184 : fldOk RX6 (184, 3, 5, 2) := ⟨RX3, TX3, 9, rfl, by decide, lw_gm 86 (by decide +kernel) rfl, (fun h => by cases h), (fun h => by cases h)⟩
theorem foX6_193 : fldOk RX6 (193, 3, 8, 2) := ⟨RX3, TX3, 9, rfl, by decide, lw_gm 95 (by decide +kernel) rfl, (fun h => by cases h), (fun h => by cases h)⟩
theorem foX6_196 : fldOk RX6 (196, 0, 2, 2) := ⟨RX0, TX0, 5, rfl, by decide, lw_gm 132 (by decide +kernel) rfl, (fun h => by cases h), (fun h => by cases h)⟩
theorem foX6_199 : fldOk RX6 (199, 0, 3, 2) := ⟨RX0, TX0, 5, rfl, by decide, lw_gm 135 (by decide +kernel) rfl, (fun h => by cases h), (fun h => by cases h)⟩
theorem foX6_205 : fldOk RX6 (205, 0, 4, 2) := ⟨RX0, TX0, 5, rfl, by decide, lw_gm 138 (by decide +kernel) rfl, (fun h => by cases h), (fun h => by cases h)⟩
theorem foX6_208 : fldOk RX6 (208, 1, 5, 2) := ⟨RX1, TX1, 10, rfl, by decide, lw_gm 170 (by decide +kernel) rfl, (fun h => by cases h), (fun h => by cases h)⟩
theorem foX6_211 : fldOk RX6 (211, 1, 6, 2) := ⟨RX1, TX1, 10, rfl, by decide, lw_gm 172 (by decide +kernel) rfl, (fun h => by cases h), (fun h => by cases h)⟩
theorem foX6_214 : fldOk RX6 (214, 1, 7, 2) := ⟨RX1, TX1, 10, rfl, by decide, lw_gm 175 (by decide +kernel) rfl, (fun h => by cases h), (fun h => by cases h)⟩
theorem foX6_217 : fldOk RX6 (217, 2, 11, 2) := ⟨RX2, TX2, 12, rfl, by decide, lw_gm 240 (by decide +kernel) rfl, (fun h => by cases h), (fun h => by cases h)⟩
theorem foX6_220 : fldOk RX6 (220, 2, 10, 2) := ⟨RX2, TX2, 12, rfl, by decide, lw_gm 237 (by decide +kernel) rfl, (fun h => by cases h), (fun h => by cases h)⟩
theorem foX6_223 : fldOk RX6 (223, 1, 9, 2) := ⟨RX1, TX1, 10, rfl, by decide, lw_gm 178 (by decide +kernel) rfl, (fun h => by cases h), (fun h => by cases h)⟩
theorem foX6_235 : fldOk RX6 (235, 4, 0, 1) := ⟨RX4, TX4, 12, rfl, by decide, lw_gm 303 (by decide +kernel) rfl, (fun h => by cases h), fun _ => ⟨rfl, rfl⟩⟩
theorem foX6_238 : fldOk RX6 (238, 4, 1, 2) := ⟨RX4, TX4, 12, rfl, by decide, lw_gm 305 (by decide +kernel) rfl, (fun h => by cases h), (fun h => by cases h)⟩
theorem flX6_ok : ∀ f ∈ flX6, fldOk RX6 f := List.forall_mem_cons.mpr ⟨foX6_10, List.forall_mem_cons.mpr ⟨foX6_19, List.forall_mem_cons.mpr ⟨foX6_26, List.forall_mem_cons.mpr ⟨foX6_33, List.forall_mem_cons.mpr ⟨foX6_42, List.forall_mem_cons.mpr ⟨foX6_51, List.forall_mem_cons.mpr ⟨foX6_59, List.forall_mem_cons.mpr ⟨foX6_71, List.forall_mem_cons.mpr ⟨foX6_78, List.forall_mem_cons.mpr ⟨foX6_89, List.forall_mem_cons.mpr ⟨foX6_95, List.forall_mem_cons.mpr ⟨foX6_98, List.forall_mem_cons.mpr ⟨foX6_101, List.forall_mem_cons.mpr ⟨foX6_109, List.forall_mem_cons.mpr ⟨foX6_114, List.forall_mem_cons.mpr ⟨foX6_123, List.forall_mem_cons.mpr ⟨foX6_129, List.forall_mem_cons.mpr ⟨foX6_136, List.forall_mem_cons.mpr ⟨foX6_145, List.forall_mem_cons.mpr ⟨foX6_148, List.forall_mem_cons.mpr ⟨foX6_151, List.forall_mem_cons.mpr ⟨foX6_154, List.forall_mem_cons.mpr ⟨foX6_157, List.forall_mem_cons.mpr ⟨foX6_160, List.forall_mem_cons.mpr ⟨foX6_163, List.forall_mem_cons.mpr ⟨foX6_166, List.forall_mem_cons.mpr ⟨foX6_169, List.forall_mem_cons.mpr ⟨foX6_172, List.forall_mem_cons.mpr ⟨foX6_175, List.forall_mem_cons.mpr ⟨foX6_178, List.forall_mem_cons.mpr ⟨foX6_181, List.forall_mem_cons.mpr ⟨foX6_184, List.forall_mem_cons.mpr ⟨foX6_193, List.forall_mem_cons.mpr ⟨foX6_196, List.forall_mem_cons.mpr ⟨foX6_199, List.forall_mem_cons.mpr ⟨foX6_205, List.forall_mem_cons.mpr ⟨foX6_208, List.forall_mem_cons.mpr ⟨foX6_211, List.forall_mem_cons.mpr ⟨foX6_214, List.forall_mem_cons.mpr ⟨foX6_217, List.forall_mem_cons.mpr ⟨foX6_220, List.forall_mem_cons.mpr ⟨foX6_223, List.forall_mem_cons.mpr ⟨foX6_235, List.forall_mem_cons.mpr ⟨foX6_238, fun _ h => absurd h List.not_mem_nil⟩⟩⟩⟩⟩⟩⟩⟩⟩⟩⟩⟩⟩⟩⟩⟩⟩⟩⟩⟩⟩⟩⟩⟩⟩⟩⟩⟩⟩⟩⟩⟩⟩⟩⟩⟩⟩⟩⟩⟩⟩⟩⟩⟩
def flX7 : List (Nat × Nat × Nat × Nat) := [(7, 7, 2, 2), (13, 7, 3, 2), (16, 7, 4, 2), (20, 7, 5, 2), (23, 7, 6, 2), (26, 7, 7, 2), (29, 7, 8, 2), (32, 7, 9, 2), (35, 7, 11, 2), (38, 7, 12, 2), (41, 7, 13, 0), (45, 7, 17, 2), (48, 7, 18, 2), (51, 7, 19, 2), (54, 7, 20, 2), (57, 7, 21, 2), (60, 7, 22, 2), (63, 7, 23, 2), (66, 7, 24, 2), (69, 7, 25, 2), (72, 7, 26, 2), (75, 7, 27, 2), (78, 7, 30, 2), (81, 7, 32, 2), (84, 7, 33, 2), (87, 7, 34, 2), (90, 7, 35, 2), (93, 7, 1, 0), (100, 7, 10, 0), (110, 7, 16, 0), (117, 7, 28, 0), (124, 7, 14, 0), (133, 7, 15, 1), (144, 7, 0, 0), (147, 7, 29, 0), (203, 7, 31, 1)]
theorem foX7_7 : fldOk RX7 (7, 7, 2, 2) := ⟨RX7, TX7, 36, rfl, by decide, lw_gm 640 (by decide +kernel) rfl, (fun h => by cases h), (fun h => by cases h)⟩
theorem foX7_13 : fldOk RX7 (13, 7, 3, 2) := ⟨RX7, TX7, 36, rfl, by decide, lw_gm 641 (by decide +kernel) rfl, (fun h => by cases h), (fun h => by cases h)⟩
theorem foX7_16 : fldOk RX7 (16, 7, 4, 2) := ⟨RX7, TX7, 36, rfl, by decide, lw_gm 642 (by decide +kernel) rfl, (fun h => by cases h), (fun h => by cases h)⟩
theorem foX7_20 : fldOk RX7 (20, 7, 5, 2) := ⟨RX7, TX7, 36, rfl, by decide, lw_gm 643 (by decide +kernel) rfl, (fun h => by cases h), (fun h => by cases h)⟩
theorem foX7_23 : fldOk RX7 (23, 7, 6, 2) := ⟨RX7, TX7, 36, rfl, by decide, lw_gm 644 (by decide +kernel) rfl, (fun h => by cases h), (fun h => by cases h)⟩
theorem foX7_26 : fldOk RX7 (26, 7, 7, 2) := ⟨RX7, TX7, 36, rfl, by decide, lw_gm 645 (by decide +kernel) rfl, (fun h => by cases h), (fun h => by cases h)⟩
theorem foX7_29 : fldOk RX7 (29, 7, 8, 2) := ⟨RX7, TX7, 36, rfl, by decide, lw_gm 646 (by decide +kernel) rfl, (fun h => by cases h), (fun h => by cases h)⟩
theorem foX7_32 : fldOk RX7 (32, 7, 9, 2) := ⟨RX7, TX7, 36, rfl, by decide, lw_gm 647 (by decide +kernel) rfl, (fun h => by cases h), (fun h => by cases h)⟩
theorem foX7_35 : fldOk RX7 (35, 7, 11, 2) := ⟨RX7, TX7, 36, rfl, by decide, lw_gm 649 (by decide +kernel) rfl, (fun h => by cases h), (fun h => by cases h)⟩
theorem foX7_38 : fldOk RX7 (38, 7, 12, 2) := ⟨RX7, TX7, 36, rfl, by decide, lw_gm 650 (by decide +kernel) rfl, (fun h => by cases h), (fun h => by cases h)⟩
theorem foX7_41 : fldOk RX7 (41, 7, 13, 0) := ⟨RX7, TX7, 36, rfl, by decide, lw_gm 651 (by decide +kernel) rfl, fun _ => ⟨rfl, rfl⟩, (fun h => by cases h)⟩
theorem foX7_45 : fldOk RX7 (45, 7, 17, 2) := ⟨RX7, TX7, 36, rfl, by decide, lw_gm 655 (by decide +kernel) rfl, (fun h => by cases h), (fun h => by cases h)⟩
theorem foX7_48 : fldOk RX7 (48, 7, 18, 2) := ⟨RX7, TX7, 36, rfl, by decide, lw_gm 656 (by decide +kernel) rfl, (fun h => by cases h), (fun h => by cases h)⟩
theorem foX7_51 : fldOk RX7 (51, 7, 19, 2) := ⟨RX7, TX7, 36, rfl, by decide, lw_gm 657 (by decide +kernel) rfl, (fun h => by cases h), (fun h => by cases h)⟩
theorem foX7_54 : fldOk RX7 (54, 7, 20, 2) := ⟨RX7, TX7, 36, rfl, by decide, lw_gm 658 (by decide +kernel) rfl, (fun h => by cases h), (fun h => by cases h)⟩
theorem foX7_57 : fldOk RX7 (57, 7, 21, 2) := ⟨RX7, TX7, 36, rfl, by decide, lw_gm 659 (by decide +kernel) rfl, (fun h => by cases h), (fun h => by cases h)⟩
theorem foX7_60 : fldOk RX7 (60, 7, 22, 2) := ⟨RX7, TX7, 36, rfl, by decide, lw_gm 660 (by decide +kernel) rfl, (fun h => by cases h), (fun h => by cases h)⟩
theorem foX7_63 : fldOk RX7 (63, 7, 23, 2) := ⟨RX7, TX7, 36, rfl, by decide, lw_gm 661 (by decide +kernel) rfl, (fun h => by cases h), (fun h => by cases h)⟩
theorem foX7_66 : fldOk RX7 (66, 7, 24, 2) := ⟨RX7, TX7, 36, rfl, by decide, lw_gm 662 (by decide +kernel) rfl, (fun h => by cases h), (fun h => by cases h)⟩
theorem foX7_69 : fldOk RX7 (69, 7, 25, 2) := ⟨RX7, TX7, 36, rfl, by decide, lw_gm 663 (by decide +kernel) rfl, (fun h => by cases h), (fun h => by cases h)⟩
theorem foX7_72 : fldOk RX7 (72, 7, 26, 2) := ⟨RX7, TX7, 36, rfl, by decide, lw_gm 664 (by decide +kernel) rfl, (fun h => by cases h), (fun h => by cases h)⟩
theorem foX7_75 : fldOk RX7 (75, 7, 27, 2) := ⟨RX7, TX7, 36, rfl, by decide, lw_gm 665 (by decide +kernel) rfl, (fun h => by cases h), (fun h => by cases h)⟩
theorem foX7_78 : fldOk RX7 (78, 7, 30, 2) := ⟨RX7, TX7, 36, rfl, by decide, lw_gm 668 (by decide +kernel) rfl, (fun h => by cases h), (fun h => by cases h)⟩
theorem foX7_81 : fldOk RX7 (81, 7, 32, 2) := ⟨RX7, TX7, 36, rfl, by decide, lw_gm 670 (by decide +kernel) rfl, (fun h => by cases h), (fun h => by cases h)⟩
theorem foX7_84 : fldOk RX7 (84, 7, 33, 2) := ⟨RX7, TX7, 36, rfl, by decide, lw_gm 671 (by decide +kernel) rfl, (fun h => by cases h), (fun h => by cases h)⟩
theorem foX7_87 : fldOk RX7 (87, 7, 34, 2) := ⟨RX7, TX7, 36, rfl, by decide, lw_gm 672 (by decide +kernel) rfl, (fun h => by cases h), (fun h => by cases h)⟩
theorem foX7_90 : fldOk RX7 (90, 7, 35, 2) := ⟨RX7, TX7, 36, rfl, by decide, lw_gm 673 (by decide +kernel) rfl, (fun h => by cases h), (fun h => by cases h)⟩
theorem foX7_93 : fldOk RX7 (93, 7, 1, 0) := ⟨RX7, TX7, 36, rfl, by decide, lw_gm 639 (by decide +kernel) rfl, fun _ => ⟨rfl, rfl⟩, (fun h => by cases h)⟩
theorem foX7_100 : fldOk RX7 (100, 7, 10, 0) := ⟨RX7, TX7, 36, rfl, by decide, lw_gm 648 (by decide +kernel) rfl, fun _ => ⟨rfl, rfl⟩, (fun h => by cases h)⟩
theorem foX7_110 : fldOk RX7 (110, 7, 16, 0) := ⟨RX7, TX7, 36, rfl, by decide, lw_gm 654 (by decide +kernel) rfl, fun _ => ⟨rfl, rfl⟩, (fun h => by cases h)⟩
theorem foX7_117 : fldOk RX7 (117, 7, 28, 0) := ⟨RX7, TX7, 36, rfl, by decide, lw_gm 666 (by decide +kernel) rfl, fun _ => ⟨rfl, rfl⟩, (fun h => by cases h)⟩
theorem foX7_124 : fldOk RX7 (124, 7, 14, 0) := ⟨RX7, TX7, 36, rfl, by decide, lw_gm 652 (by decide +kernel) rfl, fun _ => ⟨rfl, rfl⟩, (fun h => by cases h)⟩
theorem foX7_133 : fldOk RX7 (133, 7, 15, 1) := ⟨RX7, TX7, 36, rfl, by decide, lw_gm 653 (by decide +kernel) rfl, (fun h => by cases h), fun _ => ⟨rfl, rfl⟩⟩
theorem foX7_144 : fldOk RX7 (144, 7, 0, 0) := ⟨RX7, TX7, 36, rfl, by decide, lw_gm 638 (by decide +kernel) rfl, fun _ => ⟨rfl, rfl⟩, (fun h => by cases h)⟩
theorem foX7_147 : fldOk RX7 (147, 7, 29, 0) := ⟨RX7, TX7, 36, rfl, by decide, lw_gm 667 (by decide +kernel) rfl, fun _ => ⟨rfl, rfl⟩, (fun h => by cases h)⟩
theorem foX7_203 : fldOk RX7 (203, 7, 31, 1) := ⟨RX7, TX7, 36, rfl, by decide, lw_gm 669 (by decide +kernel) rfl, (fun h => by cases h), fun _ => ⟨rfl, rfl⟩⟩
theorem flX7_ok : ∀ f ∈ flX7, fldOk RX7 f := List.forall_mem_cons.mpr ⟨foX7_7, List.forall_mem_cons.mpr ⟨foX7_13, List.forall_mem_cons.mpr ⟨foX7_16, List.forall_mem_cons.mpr ⟨foX7_20, List.forall_mem_cons.mpr ⟨foX7_23, List.forall_mem_cons.mpr ⟨foX7_26, List.forall_mem_cons.mpr ⟨foX7_29, List.forall_mem_cons.mpr ⟨foX7_32, List.forall_mem_cons.mpr ⟨foX7_35, List.forall_mem_cons.mpr ⟨foX7_38, List.forall_mem_cons.mpr ⟨foX7_41, List.forall_mem_cons.mpr ⟨foX7_45, List.forall_mem_cons.mpr ⟨foX7_48, List.forall_mem_cons.mpr ⟨foX7_51, List.forall_mem_cons.mpr ⟨foX7_54, List.forall_mem_cons.mpr ⟨foX7_57, List.forall_mem_cons.mpr ⟨foX7_60, List.forall_mem_cons.mpr ⟨foX7_63, List.forall_mem_cons.mpr ⟨foX7_66, List.forall_mem_cons.mpr ⟨foX7_69, List.forall_mem_cons.mpr ⟨foX7_72, List.forall_mem_cons.mpr ⟨foX7_75, List.forall_mem_cons.mpr ⟨foX7_78, List.forall_mem_cons.mpr ⟨foX7_81, List.forall_mem_cons.mpr ⟨foX7_84, List.forall_mem_cons.mpr ⟨foX7_87, List.forall_mem_cons.mpr ⟨foX7_90, List.forall_mem_cons.mpr ⟨foX7_93, List.forall_mem_cons.mpr ⟨foX7_100, List.forall_mem_cons.mpr ⟨foX7_110, List.forall_mem_cons.mpr ⟨foX7_117, List.forall_mem_cons.mpr ⟨foX7_124, List.forall_mem_cons.mpr ⟨foX7_133, List.forall_mem_cons.mpr ⟨foX7_144, List.forall_mem_cons.mpr ⟨foX7_147, List.forall_mem_cons.mpr ⟨foX7_203, fun _ h => absurd h List.not_mem_nil⟩⟩⟩⟩⟩⟩⟩⟩⟩⟩⟩⟩⟩⟩⟩⟩⟩⟩⟩⟩⟩⟩⟩⟩⟩⟩⟩⟩⟩⟩⟩⟩⟩⟩⟩⟩
def flJ9 : List (Nat × Nat × Nat × Nat) := []
theorem flJ9_ok : ∀ f ∈ flJ9, fldOk RJ9 f := fun _ h => absurd h List.not_mem_nil
