theorem xiX0 : ∀ w ∈ u_ws RX0 TX0 4, w ∈ xT := by
  have h : ∀ w ∈ u_ws RX0 TX0 4, w ∈ tables_1 ∧ goodWord w = true := by decide +kernel
  exact fun w hw => xT_of (List.mem_append_right _ (h w hw).1) (h w hw).2
theorem xiX1 : ∀ w ∈ u_ws RX1 TX1 4, w ∈ xT := by
  have h : ∀ w ∈ u_ws RX1 TX1 4, w ∈ tables_1 ∧ goodWord w = true := by decide +kernel
  exact fun w hw => xT_of (List.mem_append_right _ (h w hw).1) (h w hw).2
theorem xiX4 : ∀ w ∈ u_ws RX4 TX4 3, w ∈ xT := by
  have h : ∀ w ∈ u_ws RX4 TX4 3, w ∈ tables_1 ∧ goodWord w = true := by decide +kernel
  exact fun w hw => xT_of (List.mem_append_right _ (h w hw).1) (h w hw).2
theorem xiX5 : ∀ w ∈ u_ws RX5 TX5 7, w ∈ xT := by
  have h : ∀ w ∈ u_ws RX5 TX5 7, w ∈ tables_1 ∧ goodWord w = true := by decide +kernel
  exact fun w hw => xT_of (List.mem_append_right _ (h w hw).1) (h w hw).2
theorem xiX6 : ∀ w ∈ u_ws RX6 TX6 6, w ∈ xT := by
  have h : ∀ w ∈ u_ws RX6 TX6 6, w ∈ tables_1 ∧ goodWord w = true := by decide +kernel
  exact fun w hw => xT_of (List.mem_append_right _ (h w hw).1) (h w hw).2
theorem xiX8 : ∀ w ∈ u_ws RX8 TX8 4, w ∈ xT := by
  have h : ∀ w ∈ u_ws RX8 TX8 4, w ∈ tables_1 ∧ goodWord w = true := by decide +kernel
  exact fun w hw => xT_of (List.mem_append_right _ (h w hw).1) (h w hw).2
theorem xiX10 : ∀ w ∈ u_ws RX10 TX10 17, w ∈ xT := by
  have h : ∀ w ∈ u_ws RX10 TX10 17, w ∈ tables_1 ∧ goodWord w = true := by decide +kernel
  exact fun w hw => xT_of (List.mem_append_right _ (h w hw).1) (h w hw).2
theorem xiX11 : ∀ w ∈ u_ws RX11 TX11 18, w ∈ xT := by
  have h : ∀ w ∈ u_ws RX11 TX11 18, w ∈ tables_1 ∧ goodWord w = true := by decide +kernel
  exact fun w hw => xT_of (List.mem_append_right _ (h w hw).1) (h w hw).2
theorem xfX0_14 : xFok RX0 (14, 0, 0, 0) := ⟨RX0, TX0, 4, tyX0, rfl, by decide, xiX0, tyX0_ok, nmX0, rfl, Or.inl (xT_at 174 (by decide +kernel) rfl), fun h => absurd h (by decide), fun h => absurd h (by decide), fun h => absurd rfl h⟩
theorem xfX0_20 : xFok RX0 (20, 0, 1, 0) := ⟨RX0, TX0, 4, tyX0, rfl, by decide, xiX0, tyX0_ok, nmX0, rfl, Or.inl (xT_at 176 (by decide +kernel) rfl), fun h => absurd h (by decide), fun h => absurd h (by decide), fun h => absurd rfl h⟩
theorem xfX0_24 : xFok RX0 (24, 0, 2, 0) := ⟨RX0, TX0, 4, tyX0, rfl, by decide, xiX0, tyX0_ok, nmX0, rfl, Or.inl (xT_at 177 (by decide +kernel) rfl), fun h => absurd h (by decide), fun h => absurd h (by decide), fun h => absurd rfl h⟩
theorem xfX0_27 : xFok RX0 (27, 0, 3, 0) := ⟨RX0, TX0, 4, tyX0, rfl, by decide, xiX0, tyX0_ok, nmX0, rfl, Or.inl (xT_at 178 (by decide +kernel) rfl), fun h => absurd h (by decide), fun h => absurd h (by decide), fun h => absurd rfl h⟩
def ftX0 : List xF := [(14, 0, 0, 0), (20, 0, 1, 0), (24, 0, 2, 0), (27, 0, 3, 0)]
theorem ftX0_ok : ∀ q ∈ ftX0, xFok RX0 q := List.forall_mem_cons.mpr ⟨xfX0_14, List.forall_mem_cons.mpr ⟨xfX0_20, List.forall_mem_cons.mpr ⟨xfX0_24, List.forall_mem_cons.mpr ⟨xfX0_27, fun _ h => absurd h List.not_mem_nil⟩⟩⟩⟩
theorem xfX1_9 : xFok RX1 (9, 1, 0, 0) := ⟨RX1, TX1, 4, tyX1, rfl, by decide, xiX1, tyX1_ok, nmX1, rfl, Or.inl (xT_at 100 (by decide +kernel) rfl), fun h => absurd h (by decide), fun h => absurd h (by decide), fun h => absurd rfl h⟩
theorem xfX1_15 : xFok RX1 (15, 1, 1, 0) := ⟨RX1, TX1, 4, tyX1, rfl, by decide, xiX1, tyX1_ok, nmX1, rfl, Or.inl (xT_at 101 (by decide +kernel) rfl), fun h => absurd h (by decide), fun h => absurd h (by decide), fun h => absurd rfl h⟩
theorem xfX1_18 : xFok RX1 (18, 1, 2, 0) := ⟨RX1, TX1, 4, tyX1, rfl, by decide, xiX1, tyX1_ok, nmX1, rfl, Or.inl (xT_at 102 (by decide +kernel) rfl), fun h => absurd h (by decide), fun h => absurd h (by decide), fun h => absurd rfl h⟩
theorem xfX1_21 : xFok RX1 (21, 1, 3, 0) := ⟨RX1, TX1, 4, tyX1, rfl, by decide, xiX1, tyX1_ok, nmX1, rfl, Or.inl (xT_at 103 (by decide +kernel) rfl), fun h => absurd h (by decide), fun h => absurd h (by decide), fun h => absurd rfl h⟩
def ftX1 : List xF := [(9, 1, 0, 0), (15, 1, 1, 0), (18, 1, 2, 0), (21, 1, 3, 0)]
theorem ftX1_ok : ∀ q ∈ ftX1, xFok RX1 q := List.forall_mem_cons.mpr ⟨xfX1_9, List.forall_mem_cons.mpr ⟨xfX1_15, List.forall_mem_cons.mpr ⟨xfX1_18, List.forall_mem_cons.mpr ⟨xfX1_21, fun _ h => absurd h List.not_mem_nil⟩⟩⟩⟩
theorem xfX4_11 : xFok RX4 (11, 2, 0, 0) := ⟨RX4, TX4, 3, tyX4, rfl, by decide, xiX4, tyX4_ok, nmX4, rfl, Or.inl (xT_at 53 (by decide +kernel) rfl), fun h => absurd h (by decide), fun h => absurd h (by decide), fun h => absurd rfl h⟩
theorem xfX4_21 : xFok RX4 (21, 2, 1, 0) := ⟨RX4, TX4, 3, tyX4, rfl, by decide, xiX4, tyX4_ok, nmX4, rfl, Or.inl (xT_at 54 (by decide +kernel) rfl), fun h => absurd h (by decide), fun h => absurd h (by decide), fun h => absurd rfl h⟩
theorem xfX4_25 : xFok RX4 (25, 2, 2, 1) := ⟨RX4, TX4, 3, tyX4, rfl, by decide, xiX4, tyX4_ok, nmX4, rfl, Or.inl (xT_at 55 (by decide +kernel) rfl), fun _ => ⟨rfl, rfl⟩, fun h => absurd h (by decide), fun _ => xT_at 55 (by decide +kernel) rfl⟩
def ftX4 : List xF := [(11, 2, 0, 0), (21, 2, 1, 0), (25, 2, 2, 1)]
theorem ftX4_ok : ∀ q ∈ ftX4, xFok RX4 q := List.forall_mem_cons.mpr ⟨xfX4_11, List.forall_mem_cons.mpr ⟨xfX4_21, List.forall_mem_cons.mpr ⟨xfX4_25, fun _ h => absurd h List.not_mem_nil⟩⟩⟩
theorem xfX5_9 : xFok RX5 (9, 3, 0, 0) := ⟨RX5, TX5, 7, tyX5, rfl, by decide, xiX5, tyX5_ok, nmX5, rfl, Or.inl (xT_at 71 (by decide +kernel) rfl), fun h => absurd h (by decide), fun h => absurd h (by decide), fun h => absurd rfl h⟩
theorem xfX5_17 : xFok RX5 (17, 3, 1, 0) := ⟨RX5, TX5, 7, tyX5, rfl, by decide, xiX5, tyX5_ok, nmX5, rfl, Or.inl (xT_at 72 (by decide +kernel) rfl), fun h => absurd h (by decide), fun h => absurd h (by decide), fun h => absurd rfl h⟩
theorem xfX5_20 : xFok RX5 (20, 3, 2, 0) := ⟨RX5, TX5, 7, tyX5, rfl, by decide, xiX5, tyX5_ok, nmX5, rfl, Or.inl (xT_at 73 (by decide +kernel) rfl), fun h => absurd h (by decide), fun h => absurd h (by decide), fun h => absurd rfl h⟩
theorem xfX5_23 : xFok RX5 (23, 3, 3, 0) := ⟨RX5, TX5, 7, tyX5, rfl, by decide, xiX5, tyX5_ok, nmX5, rfl, Or.inl (xT_at 74 (by decide +kernel) rfl), fun h => absurd h (by decide), fun h => absurd h (by decide), fun h => absurd rfl h⟩
theorem xfX5_26 : xFok RX5 (26, 3, 4, 0) := ⟨RX5, TX5, 7, tyX5, rfl, by decide, xiX5, tyX5_ok, nmX5, rfl, Or.inl (xT_at 75 (by decide +kernel) rfl), fun h => absurd h (by decide), fun h => absurd h (by decide), fun h => absurd rfl h⟩
theorem xfX5_30 : xFok RX5 (30, 3, 5, 0) := ⟨RX5, TX5, 7, tyX5, rfl, by decide, xiX5, tyX5_ok, nmX5, rfl, Or.inl (xT_at 76 (by decide +kernel) rfl), fun h => absurd h (by decide), fun h => absurd h (by decide), fun h => absurd rfl h⟩
theorem xfX5_45 : xFok RX5 (45, 3, 6, 1) := ⟨RX5, TX5, 7, tyX5, rfl, by decide, xiX5, tyX5_ok, nmX5, rfl, Or.inl (xT_at 77 (by decide +kernel) rfl), fun _ => ⟨rfl, rfl⟩, fun h => absurd h (by decide), fun _ => xT_at 77 (by decide +kernel) rfl⟩
def ftX5 : List xF := [(9, 3, 0, 0), (17, 3, 1, 0), (20, 3, 2, 0), (23, 3, 3, 0), (26, 3, 4, 0), (30, 3, 5, 0), (45, 3, 6, 1)]
theorem ftX5_ok : ∀ q ∈ ftX5, xFok RX5 q := List.forall_mem_cons.mpr ⟨xfX5_9, List.forall_mem_cons.mpr ⟨xfX5_17, List.forall_mem_cons.mpr ⟨xfX5_20, List.forall_mem_cons.mpr ⟨xfX5_23, List.forall_mem_cons.mpr ⟨xfX5_26, List.forall_mem_cons.mpr ⟨xfX5_30, List.forall_mem_cons.mpr ⟨xfX5_45, fun _ h => absurd h List.not_mem_nil⟩⟩⟩⟩⟩⟩⟩
theorem xfX6_9 : xFok RX6 (9, 4, 0, 0) := ⟨RX6, TX6, 6, tyX6, rfl, by decide, xiX6, tyX6_ok, nmX6, rfl, Or.inl (xT_at 119 (by decide +kernel) rfl), fun h => absurd h (by decide), fun h => absurd h (by decide), fun h => absurd rfl h⟩
theorem xfX6_15 : xFok RX6 (15, 4, 1, 0) := ⟨RX6, TX6, 6, tyX6, rfl, by decide, xiX6, tyX6_ok, nmX6, rfl, Or.inl (xT_at 120 (by decide +kernel) rfl), fun h => absurd h (by decide), fun h => absurd h (by decide), fun h => absurd rfl h⟩
theorem xfX6_18 : xFok RX6 (18, 4, 2, 0) := ⟨RX6, TX6, 6, tyX6, rfl, by decide, xiX6, tyX6_ok, nmX6, rfl, Or.inl (xT_at 121 (by decide +kernel) rfl), fun h => absurd h (by decide), fun h => absurd h (by decide), fun h => absurd rfl h⟩
theorem xfX6_21 : xFok RX6 (21, 4, 3, 0) := ⟨RX6, TX6, 6, tyX6, rfl, by decide, xiX6, tyX6_ok, nmX6, rfl, Or.inl (xT_at 122 (by decide +kernel) rfl), fun h => absurd h (by decide), fun h => absurd h (by decide), fun h => absurd rfl h⟩
theorem xfX6_24 : xFok RX6 (24, 4, 4, 0) := ⟨RX6, TX6, 6, tyX6, rfl, by decide, xiX6, tyX6_ok, nmX6, rfl, Or.inl (xT_at 123 (by decide +kernel) rfl), fun h => absurd h (by decide), fun h => absurd h (by decide), fun h => absurd rfl h⟩
theorem xfX6_27 : xFok RX6 (27, 4, 5, 1) := ⟨RX6, TX6, 6, tyX6, rfl, by decide, xiX6, tyX6_ok, nmX6, rfl, Or.inl (xT_at 125 (by decide +kernel) rfl), fun _ => ⟨rfl, rfl⟩, fun h => absurd h (by decide), fun _ => xT_at 125 (by decide +kernel) rfl⟩
def ftX6 : List xF := [(9, 4, 0, 0), (15, 4, 1, 0), (18, 4, 2, 0), (21, 4, 3, 0), (24, 4, 4, 0), (27, 4, 5, 1)]
theorem ftX6_ok : ∀ q ∈ ftX6, xFok RX6 q := List.forall_mem_cons.mpr ⟨xfX6_9, List.forall_mem_cons.mpr ⟨xfX6_15, List.forall_mem_cons.mpr ⟨xfX6_18, List.forall_mem_cons.mpr ⟨xfX6_21, List.forall_mem_cons.mpr ⟨xfX6_24, List.forall_mem_cons.mpr ⟨xfX6_27, fun _ h => absurd h List.not_mem_nil⟩⟩⟩⟩⟩⟩
theorem xfX8_11 : xFok RX8 (11, 5, 0, 0) := ⟨RX8, TX8, 4, tyX8, rfl, by decide, xiX8, tyX8_ok, nmX8, rfl, Or.inl (xT_at 32 (by decide +kernel) rfl), fun h => absurd h (by decide), fun h => absurd h (by decide), fun h => absurd rfl h⟩
theorem xfX8_15 : xFok RX8 (15, 5, 1, 0) := ⟨RX8, TX8, 4, tyX8, rfl, by decide, xiX8, tyX8_ok, nmX8, rfl, Or.inl (xT_at 33 (by decide +kernel) rfl), fun h => absurd h (by decide), fun h => absurd h (by decide), fun h => absurd rfl h⟩
theorem xfX8_24 : xFok RX8 (24, 5, 2, 0) := ⟨RX8, TX8, 4, tyX8, rfl, by decide, xiX8, tyX8_ok, nmX8, rfl, Or.inl (xT_at 34 (by decide +kernel) rfl), fun h => absurd h (by decide), fun h => absurd h (by decide), fun h => absurd rfl h⟩
theorem xfX8_28 : xFok RX8 (28, 5, 3, 1) := ⟨RX8, TX8, 4, tyX8, rfl, by decide, xiX8, tyX8_ok, nmX8, rfl, Or.inl (xT_at 35 (by decide +kernel) rfl), fun _ => ⟨rfl, rfl⟩, fun h => absurd h (by decide), fun _ => xT_at 35 (by decide +kernel) rfl⟩
def ftX8 : List xF := [(11, 5, 0, 0), (15, 5, 1, 0), (24, 5, 2, 0), (28, 5, 3, 1)]
theorem ftX8_ok : ∀ q ∈ ftX8, xFok RX8 q := List.forall_mem_cons.mpr ⟨xfX8_11, List.forall_mem_cons.mpr ⟨xfX8_15, List.forall_mem_cons.mpr ⟨xfX8_24, List.forall_mem_cons.mpr ⟨xfX8_28, fun _ h => absurd h List.not_mem_nil⟩⟩⟩⟩
theorem xfX10_14 : xFok RX10 (14, 6, 0, 0) := ⟨RX10, TX10, 17, tyX10, rfl, by decide, xiX10, tyX10_ok, nmX10, rfl, Or.inl (xT_at 188 (by decide +kernel) rfl), fun h => absurd h (by decide), fun h => absurd h (by decide), fun h => absurd rfl h⟩
theorem xfX10_18 : xFok RX10 (18, 6, 1, 0) := ⟨RX10, TX10, 17, tyX10, rfl, by decide, xiX10, tyX10_ok, nmX10, rfl, Or.inl (xT_at 189 (by decide +kernel) rfl), fun h => absurd h (by decide), fun h => absurd h (by decide), fun h => absurd rfl h⟩
theorem xfX10_24 : xFok RX10 (24, 6, 2, 0) := ⟨RX10, TX10, 17, tyX10, rfl, by decide, xiX10, tyX10_ok, nmX10, rfl, Or.inl (xT_at 190 (by decide +kernel) rfl), fun h => absurd h (by decide), fun h => absurd h (by decide), fun h => absurd rfl h⟩
theorem xfX10_28 : xFok RX10 (28, 6, 3, 0) := ⟨RX10, TX10, 17, tyX10, rfl, by decide, xiX10, tyX10_ok, nmX10, rfl, Or.inl (xT_at 191 (by decide +kernel) rfl), fun h => absurd h (by decide), fun h => absurd h (by decide), fun h => absurd rfl h⟩
theorem xfX10_34 : xFok RX10 (34, 6, 4, 0) := ⟨RX10, TX10, 17, tyX10, rfl, by decide, xiX10, tyX10_ok, nmX10, rfl, Or.inl (xT_at 192 (by decide +kernel) rfl), fun h => absurd h (by decide), fun h => absurd h (by decide), fun h => absurd rfl h⟩
theorem xfX10_41 : xFok RX10 (41, 6, 5, 0) := ⟨RX10, TX10, 17, tyX10, rfl, by decide, xiX10, tyX10_ok, nmX10, rfl, Or.inl (xT_at 193 (by decide +kernel) rfl), fun h => absurd h (by decide), fun h => absurd h (by decide), fun h => absurd rfl h⟩
theorem xfX10_48 : xFok RX10 (48, 6, 6, 0) := ⟨RX10, TX10, 17, tyX10, rfl, by decide, xiX10, tyX10_ok, nmX10, rfl, Or.inl (xT_at 194 (by decide +kernel) rfl), fun h => absurd h (by decide), fun h => absurd h (by decide), fun h => absurd rfl h⟩
theorem xfX10_55 : xFok RX10 (55, 6, 7, 0) := ⟨RX10, TX10, 17, tyX10, rfl, by decide, xiX10, tyX10_ok, nmX10, rfl, Or.inl (xT_at 195 (by decide +kernel) rfl), fun h => absurd h (by decide), fun h => absurd h (by decide), fun h => absurd rfl h⟩
theorem xfX10_59 : xFok RX10 (59, 6, 8, 0) := ⟨RX10, TX10, 17, tyX10, rfl, by decide, xiX10, tyX10_ok, nmX10, rfl, Or.inl (xT_at 196 (by decide +kernel) rfl), fun h => absurd h (by decide), fun h => absurd h (by decide), fun h => absurd rfl h⟩
theorem xfX10_63 : xFok RX10 (63, 6, 9, 0) := ⟨RX10, TX10, 17, tyX10, rfl, by decide, xiX10, tyX10_ok, nmX10, rfl, Or.inl (xT_at 197 (by decide +kernel) rfl), fun h => absurd h (by decide), fun h => absurd h (by decide), fun h => absurd rfl h⟩
theorem xfX10_66 : xFok RX10 (66, 6, 10, 0) := ⟨RX10, TX10, 17, tyX10, rfl, by decide, xiX10, tyX10_ok, nmX10, rfl, Or.inl (xT_at 198 (by decide +kernel) rfl), fun h => absurd h (by decide), fun h => absurd h (by decide), fun h => absurd rfl h⟩
theorem xfX10_69 : xFok RX10 (69, 6, 11, 0) := ⟨RX10, TX10, 17, tyX10, rfl, by decide, xiX10, tyX10_ok, nmX10, rfl, Or.inl (xT_at 199 (by decide +kernel) rfl), fun h => absurd h (by decide), fun h => absurd h (by decide), fun h => absurd rfl h⟩
theorem xfX10_72 : xFok RX10 (72, 6, 12, 0) := ⟨RX10, TX10, 17, tyX10, rfl, by decide, xiX10, tyX10_ok, nmX10, rfl, Or.inl (xT_at 200 (by decide +kernel) rfl), fun h => absurd h (by decide), fun h => absurd h (by decide), fun h => absurd rfl h⟩
theorem xfX10_75 : xFok RX10 (75, 6, 13, 0) := ⟨RX10, TX10, 17, tyX10, rfl, by decide, xiX10, tyX10_ok, nmX10, rfl, Or.inl (xT_at 201 (by decide +kernel) rfl), fun h => absurd h (by decide), fun h => absurd h (by decide), fun h => absurd rfl h⟩
theorem xfX10_78 : xFok RX10 (78, 6, 14, 0) := ⟨RX10, TX10, 17, tyX10, rfl, by decide, xiX10, tyX10_ok, nmX10, rfl, Or.inl (xT_at 202 (by decide +kernel) rfl), fun h => absurd h (by decide), fun h => absurd h (by decide), fun h => absurd rfl h⟩
theorem xfX10_81 : xFok RX10 (81, 6, 15, 0) := ⟨RX10, TX10, 17, tyX10, rfl, by decide, xiX10, tyX10_ok, nmX10, rfl, Or.inl (xT_at 203 (by decide +kernel) rfl), fun h => absurd h (by decide), fun h => absurd h (by decide), fun h => absurd rfl h⟩
theorem xfX10_84 : xFok RX10 (84, 6, 16, 0) := ⟨RX10, TX10, 17, tyX10, rfl, by decide, xiX10, tyX10_ok, nmX10, rfl, Or.inl (xT_at 204 (by decide +kernel) rfl), fun h => absurd h (by decide), fun h => absurd h (by decide), fun h => absurd rfl h⟩
theorem xfX10_211 : xFok RX10 (211, 4, 4, 0) := ⟨RX6, TX6, 6, tyX6, rfl, by decide, xiX6, tyX6_ok, nmX6, rfl, Or.inr ⟨"TransformRows", List.mem_of_getElem? (i := 124) (by decide +kernel)⟩, fun h => absurd h (by decide), fun h => absurd h (by decide), fun h => absurd rfl h⟩
theorem xfX10_235 : xFok RX10 (235, 0, 0, 0) := ⟨RX0, TX0, 4, tyX0, rfl, by decide, xiX0, tyX0_ok, nmX0, rfl, Or.inr ⟨"TransformRows", List.mem_of_getElem? (i := 175) (by decide +kernel)⟩, fun h => absurd h (by decide), fun h => absurd h (by decide), fun h => absurd rfl h⟩
def ftX10 : List xF := [(14, 6, 0, 0), (18, 6, 1, 0), (24, 6, 2, 0), (28, 6, 3, 0), (34, 6, 4, 0), (41, 6, 5, 0), (48, 6, 6, 0), (55, 6, 7, 0), (59, 6, 8, 0), (63, 6, 9, 0), (66, 6, 10, 0), (69, 6, 11, 0), (72, 6, 12, 0), (75, 6, 13, 0), (78, 6, 14, 0), (81, 6, 15, 0), (84, 6, 16, 0), (211, 4, 4, 0), (235, 0, 0, 0)]
theorem ftX10_ok : ∀ q ∈ ftX10, xFok RX10 q := List.forall_mem_cons.mpr ⟨xfX10_14, List.forall_mem_cons.mpr ⟨xfX10_18, List.forall_mem_cons.mpr ⟨xfX10_24, List.forall_mem_cons.mpr ⟨xfX10_28, List.forall_mem_cons.mpr ⟨xfX10_34, List.forall_mem_cons.mpr ⟨xfX10_41, List.forall_mem_cons.mpr ⟨xfX10_48, List.forall_mem_cons.mpr ⟨xfX10_55, List.forall_mem_cons.mpr ⟨xfX10_59, List.forall_mem_cons.mpr ⟨xfX10_63, List.forall_mem_cons.mpr ⟨xfX10_66, List.forall_mem_cons.mpr ⟨xfX10_69, List.forall_mem_cons.mpr ⟨xfX10_72, List.forall_mem_cons.mpr ⟨xfX10_75, List.forall_mem_cons.mpr ⟨xfX10_78, List.forall_mem_cons.mpr ⟨xfX10_81, List.forall_mem_cons.mpr ⟨xfX10_84, List.forall_mem_cons.mpr ⟨xfX10_211, List.forall_mem_cons.mpr ⟨xfX10_235, fun _ h => absurd h List.not_mem_nil⟩⟩⟩⟩⟩⟩⟩⟩⟩⟩⟩⟩⟩⟩⟩⟩⟩⟩⟩
theorem xfX11_7 : xFok RX11 (7, 7, 0, 0) := ⟨RX11, TX11, 18, tyX11, rfl, by decide, xiX11, tyX11_ok, nmX11, rfl, Or.inl (xT_at 623 (by decide +kernel) rfl), fun h => absurd h (by decide), fun h => absurd h (by decide), fun h => absurd rfl h⟩
theorem xfX11_13 : xFok RX11 (13, 7, 1, 0) := ⟨RX11, TX11, 18, tyX11, rfl, by decide, xiX11, tyX11_ok, nmX11, rfl, Or.inl (xT_at 624 (by decide +kernel) rfl), fun h => absurd h (by decide), fun h => absurd h (by decide), fun h => absurd rfl h⟩
theorem xfX11_16 : xFok RX11 (16, 7, 3, 0) := ⟨RX11, TX11, 18, tyX11, rfl, by decide, xiX11, tyX11_ok, nmX11, rfl, Or.inl (xT_at 626 (by decide +kernel) rfl), fun h => absurd h (by decide), fun h => absurd h (by decide), fun h => absurd rfl h⟩
theorem xfX11_19 : xFok RX11 (19, 7, 5, 0) := ⟨RX11, TX11, 18, tyX11, rfl, by decide, xiX11, tyX11_ok, nmX11, rfl, Or.inl (xT_at 628 (by decide +kernel) rfl), fun h => absurd h (by decide), fun h => absurd h (by decide), fun h => absurd rfl h⟩
theorem xfX11_22 : xFok RX11 (22, 7, 7, 0) := ⟨RX11, TX11, 18, tyX11, rfl, by decide, xiX11, tyX11_ok, nmX11, rfl, Or.inl (xT_at 630 (by decide +kernel) rfl), fun h => absurd h (by decide), fun h => absurd h (by decide), fun h => absurd rfl h⟩
theorem xfX11_25 : xFok RX11 (25, 7, 9, 0) := ⟨RX11, TX11, 18, tyX11, rfl, by decide, xiX11, tyX11_ok, nmX11, rfl, Or.inl (xT_at 632 (by decide +kernel) rfl), fun h => absurd h (by decide), fun h => absurd h (by decide), fun h => absurd rfl h⟩
theorem xfX11_28 : xFok RX11 (28, 7, 10, 1) := ⟨RX11, TX11, 18, tyX11, rfl, by decide, xiX11, tyX11_ok, nmX11, rfl, Or.inl (xT_at 633 (by decide +kernel) rfl), fun _ => ⟨rfl, rfl⟩, fun h => absurd h (by decide), fun _ => xT_at 633 (by decide +kernel) rfl⟩
theorem xfX11_32 : xFok RX11 (32, 7, 11, 0) := ⟨RX11, TX11, 18, tyX11, rfl, by decide, xiX11, tyX11_ok, nmX11, rfl, Or.inl (xT_at 634 (by decide +kernel) rfl), fun h => absurd h (by decide), fun h => absurd h (by decide), fun h => absurd rfl h⟩
theorem xfX11_36 : xFok RX11 (36, 7, 12, 0) := ⟨RX11, TX11, 18, tyX11, rfl, by decide, xiX11, tyX11_ok, nmX11, rfl, Or.inl (xT_at 635 (by decide +kernel) rfl), fun h => absurd h (by decide), fun h => absurd h (by decide), fun h => absurd rfl h⟩
theorem xfX11_39 : xFok RX11 (39, 7, 13, 0) := ⟨RX11, TX11, 18, tyX11, rfl, by decide, xiX11, tyX11_ok, nmX11, rfl, Or.inl (xT_at 636 (by decide +kernel) rfl), fun h => absurd h (by decide), fun h => absurd h (by decide), fun h => absurd rfl h⟩
theorem xfX11_42 : xFok RX11 (42, 7, 14, 0) := ⟨RX11, TX11, 18, tyX11, rfl, by decide, xiX11, tyX11_ok, nmX11, rfl, Or.inl (xT_at 637 (by decide +kernel) rfl), fun h => absurd h (by decide), fun h => absurd h (by decide), fun h => absurd rfl h⟩
theorem xfX11_55 : xFok RX11 (55, 7, 2, 1) := ⟨RX11, TX11, 18, tyX11, rfl, by decide, xiX11, tyX11_ok, nmX11, rfl, Or.inl (xT_at 625 (by decide +kernel) rfl), fun _ => ⟨rfl, rfl⟩, fun h => absurd h (by decide), fun _ => xT_at 625 (by decide +kernel) rfl⟩
theorem xfX11_105 : xFok RX11 (105, 7, 4, 1) := ⟨RX11, TX11, 18, tyX11, rfl, by decide, xiX11, tyX11_ok, nmX11, rfl, Or.inl (xT_at 627 (by decide +kernel) rfl), fun _ => ⟨rfl, rfl⟩, fun h => absurd h (by decide), fun _ => xT_at 627 (by decide +kernel) rfl⟩
theorem xfX11_108 : xFok RX11 (108, 7, 6, 1) := ⟨RX11, TX11, 18, tyX11, rfl, by decide, xiX11, tyX11_ok, nmX11, rfl, Or.inl (xT_at 629 (by decide +kernel) rfl), fun _ => ⟨rfl, rfl⟩, fun h => absurd h (by decide), fun _ => xT_at 629 (by decide +kernel) rfl⟩
theorem xfX11_136 : xFok RX11 (136, 7, 15, 2) := ⟨RX11, TX11, 18, tyX11, rfl, by decide, xiX11, tyX11_ok, nmX11, rfl, Or.inl (xT_at 638 (by decide +kernel) rfl), fun h => absurd h (by decide), fun _ => ⟨rfl, rfl⟩, fun _ => xT_at 638 (by decide +kernel) rfl⟩
theorem xfX11_156 : xFok RX11 (156, 7, 16, 2) := ⟨RX11, TX11, 18, tyX11, rfl, by decide, xiX11, tyX11_ok, nmX11, rfl, Or.inl (xT_at 639 (by decide +kernel) rfl), fun h => absurd h (by decide), fun _ => ⟨rfl, rfl⟩, fun _ => xT_at 639 (by decide +kernel) rfl⟩
theorem xfX11_159 : xFok RX11 (159, 7, 17, 2) := ⟨RX11, TX11, 18, tyX11, rfl, by decide, xiX11, tyX11_ok, nmX11, rfl, Or.inl (xT_at 640 (by decide +kernel) rfl), fun h => absurd h (by decide), fun _ => ⟨rfl, rfl⟩, fun _ => xT_at 640 (by decide +kernel) rfl⟩
theorem xfX11_259 : xFok RX11 (259, 7, 8, 1) := ⟨RX11, TX11, 18, tyX11, rfl, by decide, xiX11, tyX11_ok, nmX11, rfl, Or.inl (xT_at 631 (by decide +kernel) rfl), fun _ => ⟨rfl, rfl⟩, fun h => absurd h (by decide), fun _ => xT_at 631 (by decide +kernel) rfl⟩
def ftX11 : List xF := [(7, 7, 0, 0), (13, 7, 1, 0), (16, 7, 3, 0), (19, 7, 5, 0), (22, 7, 7, 0), (25, 7, 9, 0), (28, 7, 10, 1), (32, 7, 11, 0), (36, 7, 12, 0), (39, 7, 13, 0), (42, 7, 14, 0), (55, 7, 2, 1), (105, 7, 4, 1), (108, 7, 6, 1), (136, 7, 15, 2), (156, 7, 16, 2), (159, 7, 17, 2), (259, 7, 8, 1)]
theorem ftX11_ok : ∀ q ∈ ftX11, xFok RX11 q := List.forall_mem_cons.mpr ⟨xfX11_7, List.forall_mem_cons.mpr ⟨xfX11_13, List.forall_mem_cons.mpr ⟨xfX11_16, List.forall_mem_cons.mpr ⟨xfX11_19, List.forall_mem_cons.mpr ⟨xfX11_22, List.forall_mem_cons.mpr ⟨xfX11_25, List.forall_mem_cons.mpr ⟨xfX11_28, List.forall_mem_cons.mpr ⟨xfX11_32, List.forall_mem_cons.mpr ⟨xfX11_36, List.forall_mem_cons.mpr ⟨xfX11_39, List.forall_mem_cons.mpr ⟨xfX11_42, List.forall_mem_cons.mpr ⟨xfX11_55, List.forall_mem_cons.mpr ⟨xfX11_105, List.forall_mem_cons.mpr ⟨xfX11_108, List.forall_mem_cons.mpr ⟨xfX11_136, List.forall_mem_cons.mpr ⟨xfX11_156, List.forall_mem_cons.mpr ⟨xfX11_159, List.forall_mem_cons.mpr ⟨xfX11_259, fun _ h => absurd h List.not_mem_nil⟩⟩⟩⟩⟩⟩⟩⟩⟩⟩⟩⟩⟩⟩⟩⟩⟩⟩
def ctX10 : List (Nat × Int64) := [(129, -9223372036854775808), (142, 1000), (217, 500)]
theorem ctX10_ok : ∀ q ∈ ctX10, Cond.constantLong RX10 q.1 q.2 ∈ xT := List.forall_mem_cons.mpr ⟨xT_at 336 (by decide +kernel) rfl, List.forall_mem_cons.mpr ⟨xT_at 356 (by decide +kernel) rfl, List.forall_mem_cons.mpr ⟨xT_at 252 (by decide +kernel) rfl, fun _ h => absurd h List.not_mem_nil⟩⟩⟩
def ctX7 : List (Nat × Int64) := [(13, 2), (29, 4)]
theorem ctX7_ok : ∀ q ∈ ctX7, Cond.constantLong RX7 q.1 q.2 ∈ xT := List.forall_mem_cons.mpr ⟨xT_at 326 (by decide +kernel) rfl, List.forall_mem_cons.mpr ⟨xT_at 331 (by decide +kernel) rfl, fun _ h => absurd h List.not_mem_nil⟩⟩
def ctX5 : List (Nat × Int64) := [(95, 2), (101, -2), (134, 750000)]
theorem ctX5_ok : ∀ q ∈ ctX5, Cond.constantLong RX5 q.1 q.2 ∈ xT := List.forall_mem_cons.mpr ⟨xT_at 400 (by decide +kernel) rfl, List.forall_mem_cons.mpr ⟨xT_at 405 (by decide +kernel) rfl, List.forall_mem_cons.mpr ⟨xT_at 436 (by decide +kernel) rfl, fun _ h => absurd h List.not_mem_nil⟩⟩⟩
def ctX1 : List (Nat × Int64) := [(45, 2)]
theorem ctX1_ok : ∀ q ∈ ctX1, Cond.constantLong RX1 q.1 q.2 ∈ xT := List.forall_mem_cons.mpr ⟨xT_at 489 (by decide +kernel) rfl, fun _ h => absurd h List.not_mem_nil⟩
def ctX6 : List (Nat × Int64) := [(51, 1500)]
theorem ctX6_ok : ∀ q ∈ ctX6, Cond.constantLong RX6 q.1 q.2 ∈ xT := List.forall_mem_cons.mpr ⟨xT_at 543 (by decide +kernel) rfl, fun _ h => absurd h List.not_mem_nil⟩
def ctX2 : List (Nat × Int64) := [(56, 2)]
theorem ctX2_ok : ∀ q ∈ ctX2, Cond.constantLong RX2 q.1 q.2 ∈ xT := List.forall_mem_cons.mpr ⟨xT_at 569 (by decide +kernel) rfl, fun _ h => absurd h List.not_mem_nil⟩
def ctX0 : List (Nat × Int64) := [(54, 500)]
theorem ctX0_ok : ∀ q ∈ ctX0, Cond.constantLong RX0 q.1 q.2 ∈ xT := List.forall_mem_cons.mpr ⟨xT_at 605 (by decide +kernel) rfl, fun _ h => absurd h List.not_mem_nil⟩
def ctX11 : List (Nat × Int64) := [(49, -1), (51, 500), (53, -500), (74, 5), (76, 2), (93, 4), (103, -9223372036854775808), (118, -2), (169, 2147483647), (171, 2147483629), (173, 2147483587), (194, 8), (196, -1000), (198, 1000), (249, -1500), (251, 1500), (257, 60), (262, 48)]
theorem ctX11_ok : ∀ q ∈ ctX11, Cond.constantLong RX11 q.1 q.2 ∈ xT := List.forall_mem_cons.mpr ⟨xT_at 702 (by decide +kernel) rfl, List.forall_mem_cons.mpr ⟨xT_at 687 (by decide +kernel) rfl, List.forall_mem_cons.mpr ⟨xT_at 686 (by decide +kernel) rfl, List.forall_mem_cons.mpr ⟨xT_at 715 (by decide +kernel) rfl, List.forall_mem_cons.mpr ⟨xT_at 716 (by decide +kernel) rfl, List.forall_mem_cons.mpr ⟨xT_at 745 (by decide +kernel) rfl, List.forall_mem_cons.mpr ⟨xT_at 758 (by decide +kernel) rfl, List.forall_mem_cons.mpr ⟨xT_at 782 (by decide +kernel) rfl, List.forall_mem_cons.mpr ⟨xT_at 813 (by decide +kernel) rfl, List.forall_mem_cons.mpr ⟨xT_at 814 (by decide +kernel) rfl, List.forall_mem_cons.mpr ⟨xT_at 815 (by decide +kernel) rfl, List.forall_mem_cons.mpr ⟨xT_at 767 (by decide +kernel) rfl, List.forall_mem_cons.mpr ⟨xT_at 768 (by decide +kernel) rfl, List.forall_mem_cons.mpr ⟨xT_at 769 (by decide +kernel) rfl, List.forall_mem_cons.mpr ⟨xT_at 927 (by decide +kernel) rfl, List.forall_mem_cons.mpr ⟨xT_at 928 (by decide +kernel) rfl, List.forall_mem_cons.mpr ⟨xT_at 945 (by decide +kernel) rfl, List.forall_mem_cons.mpr ⟨xT_at 954 (by decide +kernel) rfl, fun _ h => absurd h List.not_mem_nil⟩⟩⟩⟩⟩⟩⟩⟩⟩⟩⟩⟩⟩⟩⟩⟩⟩⟩
def rX0_restart : Room := { frames := 4, cells := 0, slots := 0, locals := 92 }
theorem yX0_restart_ok : xY yX0_restart cX0_restart 1 (none : Option Jvm.ClassFile.FieldType) 0 := ⟨xT_at 150 (by decide +kernel) rfl, xT_at 8 (by decide +kernel) rfl, by decide +kernel, by decide +kernel, by decide +kernel⟩
theorem ivX0_restart : Cond.instanceMethod yX0_restart ∈ xT := xT_at 149 (by decide +kernel) rfl
theorem slX0_restart : Cond.selects yX0_restart.cls yX0_restart yX0_restart ∈ xT := xT_priv (n := 4) 0 (by decide +kernel)
def rX8_clear : Room := { frames := 0, cells := 0, slots := 0, locals := 0 }
theorem yX8_clear_ok : xY yX8_clear cX8_clear 1 (none : Option Jvm.ClassFile.FieldType) 0 := ⟨xT_at 154 (by decide +kernel) rfl, xT_at 2 (by decide +kernel) rfl, by decide +kernel, by decide +kernel, by decide +kernel⟩
theorem ivX8_clear : Cond.instanceMethod yX8_clear ∈ xT := xT_at 152 (by decide +kernel) rfl
theorem slX8_clear : Cond.selects yX8_clear.cls yX8_clear yX8_clear ∈ xT := xT_at 153 (by decide +kernel) rfl
def rX9_putRow : Room := { frames := 0, cells := 0, slots := 0, locals := 0 }
theorem yX9_putRow_ok : xY yX9_putRow cX9_putRow 8 (none : Option Jvm.ClassFile.FieldType) 5 := ⟨xT_at 157 (by decide +kernel) rfl, xT_at 9 (by decide +kernel) rfl, by decide +kernel, by decide +kernel, by decide +kernel⟩
theorem ssX9_putRow : Cond.static yX9_putRow ∈ xT := xT_at 156 (by decide +kernel) rfl
def rX8_keep : Room := { frames := 3, cells := 0, slots := 0, locals := 68 }
theorem yX8_keep_ok : xY yX8_keep cX8_keep 5 (some .int) 2 := ⟨xT_at 161 (by decide +kernel) rfl, xT_at 2 (by decide +kernel) rfl, by decide +kernel, by decide +kernel, by decide +kernel⟩
theorem ivX8_keep : Cond.instanceMethod yX8_keep ∈ xT := xT_at 159 (by decide +kernel) rfl
theorem slX8_keep : Cond.selects yX8_keep.cls yX8_keep yX8_keep ∈ xT := xT_at 160 (by decide +kernel) rfl
def rX8_find : Room := { frames := 2, cells := 0, slots := 0, locals := 45 }
theorem yX8_find_ok : xY yX8_find cX8_find 4 (some .int) 2 := ⟨xT_at 165 (by decide +kernel) rfl, xT_at 2 (by decide +kernel) rfl, by decide +kernel, by decide +kernel, by decide +kernel⟩
theorem ivX8_find : Cond.instanceMethod yX8_find ∈ xT := xT_at 163 (by decide +kernel) rfl
theorem slX8_find : Cond.selects yX8_find.cls yX8_find yX8_find ∈ xT := xT_at 164 (by decide +kernel) rfl
def rX8_isAt : Room := { frames := 1, cells := 0, slots := 0, locals := 22 }
theorem yX8_isAt_ok : xY yX8_isAt cX8_isAt 4 (some .boolean) 2 := ⟨xT_at 169 (by decide +kernel) rfl, xT_at 2 (by decide +kernel) rfl, by decide +kernel, by decide +kernel, by decide +kernel⟩
theorem ivX8_isAt : Cond.instanceMethod yX8_isAt ∈ xT := xT_at 168 (by decide +kernel) rfl
theorem slX8_isAt : Cond.selects yX8_isAt.cls yX8_isAt yX8_isAt ∈ xT := xT_priv (n := 4) 1 (by decide +kernel)
def rX8_cell : Room := { frames := 0, cells := 0, slots := 0, locals := 0 }
theorem yX8_cell_ok : xY yX8_cell cX8_cell 3 (some .int) 2 := ⟨xT_at 173 (by decide +kernel) rfl, xT_at 2 (by decide +kernel) rfl, by decide +kernel, by decide +kernel, by decide +kernel⟩
theorem ivX8_cell : Cond.instanceMethod yX8_cell ∈ xT := xT_at 171 (by decide +kernel) rfl
theorem slX8_cell : Cond.selects yX8_cell.cls yX8_cell yX8_cell ∈ xT := xT_at 172 (by decide +kernel) rfl
def rX10_point : Room := { frames := 7, cells := 0, slots := 0, locals := 162 }
theorem yX10_point_ok : xY yX10_point cX10_point 4 (some .int) 3 := ⟨xT_at 243 (by decide +kernel) rfl, xT_at 1 (by decide +kernel) rfl, by decide +kernel, by decide +kernel, by decide +kernel⟩
theorem ivX10_point : Cond.instanceMethod yX10_point ∈ xT := xT_at 241 (by decide +kernel) rfl
theorem slX10_point : Cond.selects yX10_point.cls yX10_point yX10_point ∈ xT := xT_at 242 (by decide +kernel) rfl
def rX10_keepTriple : Room := { frames := 6, cells := 0, slots := 0, locals := 138 }
theorem yX10_keepTriple_ok : xY yX10_keepTriple cX10_keepTriple 5 (some .int) 4 := ⟨xT_at 247 (by decide +kernel) rfl, xT_at 1 (by decide +kernel) rfl, by decide +kernel, by decide +kernel, by decide +kernel⟩
theorem ivX10_keepTriple : Cond.instanceMethod yX10_keepTriple ∈ xT := xT_at 246 (by decide +kernel) rfl
theorem slX10_keepTriple : Cond.selects yX10_keepTriple.cls yX10_keepTriple yX10_keepTriple ∈ xT := xT_priv (n := 17) 2 (by decide +kernel)
def rX10_keepGiven : Room := { frames := 5, cells := 0, slots := 0, locals := 114 }
theorem yX10_keepGiven_ok : xY yX10_keepGiven cX10_keepGiven 5 (some .int) 2 := ⟨xT_at 251 (by decide +kernel) rfl, xT_at 1 (by decide +kernel) rfl, by decide +kernel, by decide +kernel, by decide +kernel⟩
theorem ivX10_keepGiven : Cond.instanceMethod yX10_keepGiven ∈ xT := xT_at 250 (by decide +kernel) rfl
theorem slX10_keepGiven : Cond.selects yX10_keepGiven.cls yX10_keepGiven yX10_keepGiven ∈ xT := xT_priv (n := 17) 3 (by decide +kernel)
def rX10_beyond : Room := { frames := 0, cells := 0, slots := 0, locals := 0 }
theorem yX10_beyond_ok : xY yX10_beyond cX10_beyond 4 (some .boolean) 2 := ⟨xT_at 255 (by decide +kernel) rfl, xT_at 1 (by decide +kernel) rfl, by decide +kernel, by decide +kernel, by decide +kernel⟩
theorem ssX10_beyond : Cond.static yX10_beyond ∈ xT := xT_at 254 (by decide +kernel) rfl
def rX10_keepObject : Room := { frames := 4, cells := 0, slots := 0, locals := 92 }
theorem yX10_keepObject_ok : xY yX10_keepObject cX10_keepObject 3 (some .int) 2 := ⟨xT_at 259 (by decide +kernel) rfl, xT_at 1 (by decide +kernel) rfl, by decide +kernel, by decide +kernel, by decide +kernel⟩
theorem ivX10_keepObject : Cond.instanceMethod yX10_keepObject ∈ xT := xT_at 258 (by decide +kernel) rfl
theorem slX10_keepObject : Cond.selects yX10_keepObject.cls yX10_keepObject yX10_keepObject ∈ xT := xT_priv (n := 17) 4 (by decide +kernel)
def rX3_reduce : Room := { frames := 2, cells := 0, slots := 0, locals := 51 }
theorem yX3_reduce_ok : xY yX3_reduce cX3_reduce 11 (some .boolean) 2 := ⟨xT_at 262 (by decide +kernel) rfl, xT_at 11 (by decide +kernel) rfl, by decide +kernel, by decide +kernel, by decide +kernel⟩
theorem ssX3_reduce : Cond.static yX3_reduce ∈ xT := xT_at 261 (by decide +kernel) rfl
def rX3_divisor : Room := { frames := 1, cells := 0, slots := 0, locals := 21 }
theorem yX3_divisor_ok : xY yX3_divisor cX3_divisor 11 (some .long) 2 := ⟨xT_at 265 (by decide +kernel) rfl, xT_at 11 (by decide +kernel) rfl, by decide +kernel, by decide +kernel, by decide +kernel⟩
theorem ssX3_divisor : Cond.static yX3_divisor ∈ xT := xT_at 264 (by decide +kernel) rfl
def rX10_line : Room := { frames := 7, cells := 0, slots := 0, locals := 162 }
theorem yX10_line_ok : xY yX10_line cX10_line 4 (some .int) 3 := ⟨xT_at 274 (by decide +kernel) rfl, xT_at 1 (by decide +kernel) rfl, by decide +kernel, by decide +kernel, by decide +kernel⟩
theorem ivX10_line : Cond.instanceMethod yX10_line ∈ xT := xT_at 272 (by decide +kernel) rfl
theorem slX10_line : Cond.selects yX10_line.cls yX10_line yX10_line ∈ xT := xT_at 273 (by decide +kernel) rfl
def rX10_conic : Room := { frames := 6, cells := 0, slots := 0, locals := 138 }
theorem yX10_conic_ok : xY yX10_conic cX10_conic 7 (some .int) 6 := ⟨xT_at 278 (by decide +kernel) rfl, xT_at 1 (by decide +kernel) rfl, by decide +kernel, by decide +kernel, by decide +kernel⟩
theorem ivX10_conic : Cond.instanceMethod yX10_conic ∈ xT := xT_at 276 (by decide +kernel) rfl
theorem slX10_conic : Cond.selects yX10_conic.cls yX10_conic yX10_conic ∈ xT := xT_at 277 (by decide +kernel) rfl
def rX10_number : Room := { frames := 2, cells := 0, slots := 0, locals := 42 }
theorem yX10_number_ok : xY yX10_number cX10_number 5 (some .int) 2 := ⟨xT_at 282 (by decide +kernel) rfl, xT_at 1 (by decide +kernel) rfl, by decide +kernel, by decide +kernel, by decide +kernel⟩
theorem ivX10_number : Cond.instanceMethod yX10_number ∈ xT := xT_at 280 (by decide +kernel) rfl
theorem slX10_number : Cond.selects yX10_number.cls yX10_number yX10_number ∈ xT := xT_at 281 (by decide +kernel) rfl
def rX8_sortOf : Room := { frames := 1, cells := 0, slots := 0, locals := 21 }
theorem yX8_sortOf_ok : xY yX8_sortOf cX8_sortOf 2 (some .int) 1 := ⟨xT_at 286 (by decide +kernel) rfl, xT_at 2 (by decide +kernel) rfl, by decide +kernel, by decide +kernel, by decide +kernel⟩
theorem ivX8_sortOf : Cond.instanceMethod yX8_sortOf ∈ xT := xT_at 284 (by decide +kernel) rfl
theorem slX8_sortOf : Cond.selects yX8_sortOf.cls yX8_sortOf yX8_sortOf ∈ xT := xT_at 285 (by decide +kernel) rfl
def rX8_has : Room := { frames := 0, cells := 0, slots := 0, locals := 0 }
theorem yX8_has_ok : xY yX8_has cX8_has 2 (some .boolean) 1 := ⟨xT_at 290 (by decide +kernel) rfl, xT_at 2 (by decide +kernel) rfl, by decide +kernel, by decide +kernel, by decide +kernel⟩
theorem ivX8_has : Cond.instanceMethod yX8_has ∈ xT := xT_at 288 (by decide +kernel) rfl
theorem slX8_has : Cond.selects yX8_has.cls yX8_has yX8_has ∈ xT := xT_at 289 (by decide +kernel) rfl
def rX10_join : Room := { frames := 5, cells := 0, slots := 0, locals := 114 }
theorem yX10_join_ok : xY yX10_join cX10_join 4 (some .int) 2 := ⟨xT_at 295 (by decide +kernel) rfl, xT_at 1 (by decide +kernel) rfl, by decide +kernel, by decide +kernel, by decide +kernel⟩
theorem ivX10_join : Cond.instanceMethod yX10_join ∈ xT := xT_at 293 (by decide +kernel) rfl
theorem slX10_join : Cond.selects yX10_join.cls yX10_join yX10_join ∈ xT := xT_at 294 (by decide +kernel) rfl
def rX8_load : Room := { frames := 1, cells := 0, slots := 0, locals := 22 }
theorem yX8_load_ok : xY yX8_load cX8_load 4 (none : Option Jvm.ClassFile.FieldType) 2 := ⟨xT_at 299 (by decide +kernel) rfl, xT_at 2 (by decide +kernel) rfl, by decide +kernel, by decide +kernel, by decide +kernel⟩
theorem ivX8_load : Cond.instanceMethod yX8_load ∈ xT := xT_at 297 (by decide +kernel) rfl
theorem slX8_load : Cond.selects yX8_load.cls yX8_load yX8_load ∈ xT := xT_at 298 (by decide +kernel) rfl
def rX7_wedge : Room := { frames := 1, cells := 0, slots := 0, locals := 22 }
theorem yX7_wedge_ok : xY yX7_wedge cX7_wedge 3 (none : Option Jvm.ClassFile.FieldType) 3 := ⟨xT_at 302 (by decide +kernel) rfl, xT_at 12 (by decide +kernel) rfl, by decide +kernel, by decide +kernel, by decide +kernel⟩
theorem ssX7_wedge : Cond.static yX7_wedge ∈ xT := xT_at 301 (by decide +kernel) rfl
def rX7_wedgeCell : Room := { frames := 0, cells := 0, slots := 0, locals := 0 }
theorem yX7_wedgeCell_ok : xY yX7_wedgeCell cX7_wedgeCell 3 (some .long) 3 := ⟨xT_at 305 (by decide +kernel) rfl, xT_at 12 (by decide +kernel) rfl, by decide +kernel, by decide +kernel, by decide +kernel⟩
theorem ssX7_wedgeCell : Cond.static yX7_wedgeCell ∈ xT := xT_at 304 (by decide +kernel) rfl
def rX10_on : Room := { frames := 2, cells := 0, slots := 0, locals := 45 }
theorem yX10_on_ok : xY yX10_on cX10_on 4 (some .int) 2 := ⟨xT_at 309 (by decide +kernel) rfl, xT_at 1 (by decide +kernel) rfl, by decide +kernel, by decide +kernel, by decide +kernel⟩
theorem ivX10_on : Cond.instanceMethod yX10_on ∈ xT := xT_at 307 (by decide +kernel) rfl
theorem slX10_on : Cond.selects yX10_on.cls yX10_on yX10_on ∈ xT := xT_at 308 (by decide +kernel) rfl
def rX7_dot : Room := { frames := 0, cells := 0, slots := 0, locals := 0 }
theorem yX7_dot_ok : xY yX7_dot cX7_dot 2 (some .long) 2 := ⟨xT_at 312 (by decide +kernel) rfl, xT_at 12 (by decide +kernel) rfl, by decide +kernel, by decide +kernel, by decide +kernel⟩
theorem ssX7_dot : Cond.static yX7_dot ∈ xT := xT_at 311 (by decide +kernel) rfl
def rX7_conicAt : Room := { frames := 0, cells := 0, slots := 0, locals := 0 }
theorem yX7_conicAt_ok : xY yX7_conicAt cX7_conicAt 2 (some .long) 2 := ⟨xT_at 315 (by decide +kernel) rfl, xT_at 12 (by decide +kernel) rfl, by decide +kernel, by decide +kernel, by decide +kernel⟩
theorem ssX7_conicAt : Cond.static yX7_conicAt ∈ xT := xT_at 314 (by decide +kernel) rfl
def rX10_shape : Room := { frames := 3, cells := 0, slots := 0, locals := 73 }
theorem yX10_shape_ok : xY yX10_shape cX10_shape 2 (some .int) 1 := ⟨xT_at 319 (by decide +kernel) rfl, xT_at 1 (by decide +kernel) rfl, by decide +kernel, by decide +kernel, by decide +kernel⟩
theorem ivX10_shape : Cond.instanceMethod yX10_shape ∈ xT := xT_at 317 (by decide +kernel) rfl
theorem slX10_shape : Cond.selects yX10_shape.cls yX10_shape yX10_shape ∈ xT := xT_at 318 (by decide +kernel) rfl
def rX7_shapeOf : Room := { frames := 2, cells := 0, slots := 0, locals := 48 }
theorem yX7_shapeOf_ok : xY yX7_shapeOf cX7_shapeOf 6 (some .int) 2 := ⟨xT_at 322 (by decide +kernel) rfl, xT_at 12 (by decide +kernel) rfl, by decide +kernel, by decide +kernel, by decide +kernel⟩
theorem ssX7_shapeOf : Cond.static yX7_shapeOf ∈ xT := xT_at 321 (by decide +kernel) rfl
def rX7_evenTable : Room := { frames := 1, cells := 0, slots := 0, locals := 27 }
theorem yX7_evenTable_ok : xY yX7_evenTable cX7_evenTable 2 (none : Option Jvm.ClassFile.FieldType) 2 := ⟨xT_at 325 (by decide +kernel) rfl, xT_at 12 (by decide +kernel) rfl, by decide +kernel, by decide +kernel, by decide +kernel⟩
theorem ssX7_evenTable : Cond.static yX7_evenTable ∈ xT := xT_at 324 (by decide +kernel) rfl
def rX9_determinant : Room := { frames := 0, cells := 0, slots := 0, locals := 0 }
theorem yX9_determinant_ok : xY yX9_determinant cX9_determinant 1 (some .long) 1 := ⟨xT_at 330 (by decide +kernel) rfl, xT_at 9 (by decide +kernel) rfl, by decide +kernel, by decide +kernel, by decide +kernel⟩
theorem ssX9_determinant : Cond.static yX9_determinant ∈ xT := xT_at 329 (by decide +kernel) rfl
def rX10_cross : Room := { frames := 3, cells := 0, slots := 0, locals := 89 }
theorem yX10_cross_ok : xY yX10_cross cX10_cross 7 (some .long) 5 := ⟨xT_at 335 (by decide +kernel) rfl, xT_at 1 (by decide +kernel) rfl, by decide +kernel, by decide +kernel, by decide +kernel⟩
theorem ivX10_cross : Cond.instanceMethod yX10_cross ∈ xT := xT_at 333 (by decide +kernel) rfl
theorem slX10_cross : Cond.selects yX10_cross.cls yX10_cross yX10_cross ∈ xT := xT_at 334 (by decide +kernel) rfl
def rX10_crossRatio : Room := { frames := 2, cells := 0, slots := 0, locals := 51 }
theorem yX10_crossRatio_ok : xY yX10_crossRatio cX10_crossRatio 19 (some .long) 1 := ⟨xT_at 340 (by decide +kernel) rfl, xT_at 1 (by decide +kernel) rfl, by decide +kernel, by decide +kernel, by decide +kernel⟩
theorem ivX10_crossRatio : Cond.instanceMethod yX10_crossRatio ∈ xT := xT_at 339 (by decide +kernel) rfl
theorem slX10_crossRatio : Cond.selects yX10_crossRatio.cls yX10_crossRatio yX10_crossRatio ∈ xT := xT_priv (n := 17) 5 (by decide +kernel)
def rX10_give : Room := { frames := 1, cells := 0, slots := 0, locals := 21 }
theorem yX10_give_ok : xY yX10_give cX10_give 2 (some .int) 1 := ⟨xT_at 346 (by decide +kernel) rfl, xT_at 1 (by decide +kernel) rfl, by decide +kernel, by decide +kernel, by decide +kernel⟩
theorem ivX10_give : Cond.instanceMethod yX10_give ∈ xT := xT_at 344 (by decide +kernel) rfl
theorem slX10_give : Cond.selects yX10_give.cls yX10_give yX10_give ∈ xT := xT_at 345 (by decide +kernel) rfl
def rX4_append : Room := { frames := 0, cells := 0, slots := 0, locals := 0 }
theorem yX4_append_ok : xY yX4_append cX4_append 2 (some .int) 1 := ⟨xT_at 351 (by decide +kernel) rfl, xT_at 4 (by decide +kernel) rfl, by decide +kernel, by decide +kernel, by decide +kernel⟩
theorem ivX4_append : Cond.instanceMethod yX4_append ∈ xT := xT_at 349 (by decide +kernel) rfl
theorem slX4_append : Cond.selects yX4_append.cls yX4_append yX4_append ∈ xT := xT_at 350 (by decide +kernel) rfl
def rX10_make : Room := { frames := 6, cells := 0, slots := 0, locals := 165 }
theorem yX10_make_ok : xY yX10_make cX10_make 5 (some .int) 3 := ⟨xT_at 355 (by decide +kernel) rfl, xT_at 1 (by decide +kernel) rfl, by decide +kernel, by decide +kernel, by decide +kernel⟩
theorem ivX10_make : Cond.instanceMethod yX10_make ∈ xT := xT_at 353 (by decide +kernel) rfl
theorem slX10_make : Cond.selects yX10_make.cls yX10_make yX10_make ∈ xT := xT_at 354 (by decide +kernel) rfl
def rX5_take : Room := { frames := 2, cells := 0, slots := 0, locals := 45 }
theorem yX5_take_ok : xY yX5_take cX5_take 4 (none : Option Jvm.ClassFile.FieldType) 2 := ⟨xT_at 360 (by decide +kernel) rfl, xT_at 5 (by decide +kernel) rfl, by decide +kernel, by decide +kernel, by decide +kernel⟩
theorem ivX5_take : Cond.instanceMethod yX5_take ∈ xT := xT_at 358 (by decide +kernel) rfl
theorem slX5_take : Cond.selects yX5_take.cls yX5_take yX5_take ∈ xT := xT_at 359 (by decide +kernel) rfl
def rX4_size : Room := { frames := 0, cells := 0, slots := 0, locals := 0 }
theorem yX4_size_ok : xY yX4_size cX4_size 1 (some .int) 0 := ⟨xT_at 364 (by decide +kernel) rfl, xT_at 4 (by decide +kernel) rfl, by decide +kernel, by decide +kernel, by decide +kernel⟩
theorem ivX4_size : Cond.instanceMethod yX4_size ∈ xT := xT_at 362 (by decide +kernel) rfl
theorem slX4_size : Cond.selects yX4_size.cls yX4_size yX4_size ∈ xT := xT_at 363 (by decide +kernel) rfl
def rX4_member : Room := { frames := 0, cells := 0, slots := 0, locals := 0 }
theorem yX4_member_ok : xY yX4_member cX4_member 2 (some .int) 1 := ⟨xT_at 369 (by decide +kernel) rfl, xT_at 4 (by decide +kernel) rfl, by decide +kernel, by decide +kernel, by decide +kernel⟩
theorem ivX4_member : Cond.instanceMethod yX4_member ∈ xT := xT_at 367 (by decide +kernel) rfl
theorem slX4_member : Cond.selects yX4_member.cls yX4_member yX4_member ∈ xT := xT_at 368 (by decide +kernel) rfl
def rX4_clear : Room := { frames := 0, cells := 0, slots := 0, locals := 0 }
theorem yX4_clear_ok : xY yX4_clear cX4_clear 1 (none : Option Jvm.ClassFile.FieldType) 0 := ⟨xT_at 375 (by decide +kernel) rfl, xT_at 4 (by decide +kernel) rfl, by decide +kernel, by decide +kernel, by decide +kernel⟩
theorem ivX4_clear : Cond.instanceMethod yX4_clear ∈ xT := xT_at 373 (by decide +kernel) rfl
theorem slX4_clear : Cond.selects yX4_clear.cls yX4_clear yX4_clear ∈ xT := xT_at 374 (by decide +kernel) rfl
def rX5_build : Room := { frames := 5, cells := 0, slots := 0, locals := 139 }
theorem yX5_build_ok : xY yX5_build cX5_build 7 (some .int) 4 := ⟨xT_at 379 (by decide +kernel) rfl, xT_at 5 (by decide +kernel) rfl, by decide +kernel, by decide +kernel, by decide +kernel⟩
theorem ivX5_build : Cond.instanceMethod yX5_build ∈ xT := xT_at 377 (by decide +kernel) rfl
theorem slX5_build : Cond.selects yX5_build.cls yX5_build yX5_build ∈ xT := xT_at 378 (by decide +kernel) rfl
def rX5_buildShift : Room := { frames := 2, cells := 0, slots := 0, locals := 57 }
theorem yX5_buildShift_ok : xY yX5_buildShift cX5_buildShift 3 (some .int) 1 := ⟨xT_at 383 (by decide +kernel) rfl, xT_at 5 (by decide +kernel) rfl, by decide +kernel, by decide +kernel, by decide +kernel⟩
theorem ivX5_buildShift : Cond.instanceMethod yX5_buildShift ∈ xT := xT_at 382 (by decide +kernel) rfl
theorem slX5_buildShift : Cond.selects yX5_buildShift.cls yX5_buildShift yX5_buildShift ∈ xT := xT_priv (n := 7) 6 (by decide +kernel)
def rX5_areNear : Room := { frames := 1, cells := 0, slots := 0, locals := 23 }
theorem yX5_areNear_ok : xY yX5_areNear cX5_areNear 3 (some .boolean) 1 := ⟨xT_at 387 (by decide +kernel) rfl, xT_at 5 (by decide +kernel) rfl, by decide +kernel, by decide +kernel, by decide +kernel⟩
theorem ivX5_areNear : Cond.instanceMethod yX5_areNear ∈ xT := xT_at 386 (by decide +kernel) rfl
theorem slX5_areNear : Cond.selects yX5_areNear.cls yX5_areNear yX5_areNear ∈ xT := xT_priv (n := 7) 7 (by decide +kernel)
def rX5_areAll : Room := { frames := 0, cells := 0, slots := 0, locals := 0 }
theorem yX5_areAll_ok : xY yX5_areAll cX5_areAll 4 (some .boolean) 2 := ⟨xT_at 391 (by decide +kernel) rfl, xT_at 5 (by decide +kernel) rfl, by decide +kernel, by decide +kernel, by decide +kernel⟩
theorem ivX5_areAll : Cond.instanceMethod yX5_areAll ∈ xT := xT_at 390 (by decide +kernel) rfl
theorem slX5_areAll : Cond.selects yX5_areAll.cls yX5_areAll yX5_areAll ∈ xT := xT_priv (n := 7) 8 (by decide +kernel)
def rX5_putLikeness : Room := { frames := 1, cells := 0, slots := 0, locals := 27 }
theorem yX5_putLikeness_ok : xY yX5_putLikeness cX5_putLikeness 11 (none : Option Jvm.ClassFile.FieldType) 6 := ⟨xT_at 394 (by decide +kernel) rfl, xT_at 5 (by decide +kernel) rfl, by decide +kernel, by decide +kernel, by decide +kernel⟩
theorem ssX5_putLikeness : Cond.static yX5_putLikeness ∈ xT := xT_at 393 (by decide +kernel) rfl
def rX5_buildTurn : Room := { frames := 2, cells := 0, slots := 0, locals := 57 }
theorem yX5_buildTurn_ok : xY yX5_buildTurn cX5_buildTurn 17 (some .int) 3 := ⟨xT_at 399 (by decide +kernel) rfl, xT_at 5 (by decide +kernel) rfl, by decide +kernel, by decide +kernel, by decide +kernel⟩
theorem ivX5_buildTurn : Cond.instanceMethod yX5_buildTurn ∈ xT := xT_at 398 (by decide +kernel) rfl
theorem slX5_buildTurn : Cond.selects yX5_buildTurn.cls yX5_buildTurn yX5_buildTurn ∈ xT := xT_priv (n := 7) 9 (by decide +kernel)
def rX5_buildGlide : Room := { frames := 1, cells := 0, slots := 0, locals := 27 }
theorem yX5_buildGlide_ok : xY yX5_buildGlide cX5_buildGlide 16 (some .int) 3 := ⟨xT_at 404 (by decide +kernel) rfl, xT_at 5 (by decide +kernel) rfl, by decide +kernel, by decide +kernel, by decide +kernel⟩
theorem ivX5_buildGlide : Cond.instanceMethod yX5_buildGlide ∈ xT := xT_at 403 (by decide +kernel) rfl
theorem slX5_buildGlide : Cond.selects yX5_buildGlide.cls yX5_buildGlide yX5_buildGlide ∈ xT := xT_priv (n := 7) 10 (by decide +kernel)
def rX5_buildStretch : Room := { frames := 2, cells := 0, slots := 0, locals := 57 }
theorem yX5_buildStretch_ok : xY yX5_buildStretch cX5_buildStretch 7 (some .int) 3 := ⟨xT_at 409 (by decide +kernel) rfl, xT_at 5 (by decide +kernel) rfl, by decide +kernel, by decide +kernel, by decide +kernel⟩
theorem ivX5_buildStretch : Cond.instanceMethod yX5_buildStretch ∈ xT := xT_at 408 (by decide +kernel) rfl
theorem slX5_buildStretch : Cond.selects yX5_buildStretch.cls yX5_buildStretch yX5_buildStretch ∈ xT := xT_priv (n := 7) 11 (by decide +kernel)
def rX5_buildLikeness : Room := { frames := 2, cells := 0, slots := 0, locals := 57 }
theorem yX5_buildLikeness_ok : xY yX5_buildLikeness cX5_buildLikeness 26 (some .int) 1 := ⟨xT_at 413 (by decide +kernel) rfl, xT_at 5 (by decide +kernel) rfl, by decide +kernel, by decide +kernel, by decide +kernel⟩
theorem ivX5_buildLikeness : Cond.instanceMethod yX5_buildLikeness ∈ xT := xT_at 412 (by decide +kernel) rfl
theorem slX5_buildLikeness : Cond.selects yX5_buildLikeness.cls yX5_buildLikeness yX5_buildLikeness ∈ xT := xT_priv (n := 7) 12 (by decide +kernel)
def rX5_buildAffine : Room := { frames := 3, cells := 0, slots := 0, locals := 66 }
theorem yX5_buildAffine_ok : xY yX5_buildAffine cX5_buildAffine 5 (some .int) 1 := ⟨xT_at 417 (by decide +kernel) rfl, xT_at 5 (by decide +kernel) rfl, by decide +kernel, by decide +kernel, by decide +kernel⟩
theorem ivX5_buildAffine : Cond.instanceMethod yX5_buildAffine ∈ xT := xT_at 416 (by decide +kernel) rfl
theorem slX5_buildAffine : Cond.selects yX5_buildAffine.cls yX5_buildAffine yX5_buildAffine ∈ xT := xT_priv (n := 7) 13 (by decide +kernel)
def rX5_findSides : Room := { frames := 2, cells := 0, slots := 0, locals := 44 }
theorem yX5_findSides_ok : xY yX5_findSides cX5_findSides 3 (some .boolean) 2 := ⟨xT_at 421 (by decide +kernel) rfl, xT_at 5 (by decide +kernel) rfl, by decide +kernel, by decide +kernel, by decide +kernel⟩
theorem ivX5_findSides : Cond.instanceMethod yX5_findSides ∈ xT := xT_at 420 (by decide +kernel) rfl
theorem slX5_findSides : Cond.selects yX5_findSides.cls yX5_findSides yX5_findSides ∈ xT := xT_priv (n := 7) 14 (by decide +kernel)
def rX5_putWeighted : Room := { frames := 0, cells := 0, slots := 0, locals := 0 }
theorem yX5_putWeighted_ok : xY yX5_putWeighted cX5_putWeighted 8 (none : Option Jvm.ClassFile.FieldType) 2 := ⟨xT_at 427 (by decide +kernel) rfl, xT_at 5 (by decide +kernel) rfl, by decide +kernel, by decide +kernel, by decide +kernel⟩
theorem ivX5_putWeighted : Cond.instanceMethod yX5_putWeighted ∈ xT := xT_at 426 (by decide +kernel) rfl
theorem slX5_putWeighted : Cond.selects yX5_putWeighted.cls yX5_putWeighted yX5_putWeighted ∈ xT := xT_priv (n := 7) 15 (by decide +kernel)
def rX5_buildProjective : Room := { frames := 4, cells := 0, slots := 0, locals := 117 }
theorem yX5_buildProjective_ok : xY yX5_buildProjective cX5_buildProjective 3 (some .int) 1 := ⟨xT_at 431 (by decide +kernel) rfl, xT_at 5 (by decide +kernel) rfl, by decide +kernel, by decide +kernel, by decide +kernel⟩
theorem ivX5_buildProjective : Cond.instanceMethod yX5_buildProjective ∈ xT := xT_at 430 (by decide +kernel) rfl
theorem slX5_buildProjective : Cond.selects yX5_buildProjective.cls yX5_buildProjective yX5_buildProjective ∈ xT := xT_priv (n := 7) 16 (by decide +kernel)
def rX5_findWeights : Room := { frames := 3, cells := 0, slots := 0, locals := 81 }
theorem yX5_findWeights_ok : xY yX5_findWeights cX5_findWeights 17 (some .boolean) 0 := ⟨xT_at 435 (by decide +kernel) rfl, xT_at 5 (by decide +kernel) rfl, by decide +kernel, by decide +kernel, by decide +kernel⟩
theorem ivX5_findWeights : Cond.instanceMethod yX5_findWeights ∈ xT := xT_at 434 (by decide +kernel) rfl
theorem slX5_findWeights : Cond.selects yX5_findWeights.cls yX5_findWeights yX5_findWeights ∈ xT := xT_priv (n := 7) 17 (by decide +kernel)
def rX5_buildAny : Room := { frames := 1, cells := 0, slots := 0, locals := 27 }
theorem yX5_buildAny_ok : xY yX5_buildAny cX5_buildAny 3 (some .int) 1 := ⟨xT_at 441 (by decide +kernel) rfl, xT_at 5 (by decide +kernel) rfl, by decide +kernel, by decide +kernel, by decide +kernel⟩
theorem ivX5_buildAny : Cond.instanceMethod yX5_buildAny ∈ xT := xT_at 440 (by decide +kernel) rfl
theorem slX5_buildAny : Cond.selects yX5_buildAny.cls yX5_buildAny yX5_buildAny ∈ xT := xT_priv (n := 7) 18 (by decide +kernel)
def rX10_keepMap : Room := { frames := 4, cells := 0, slots := 0, locals := 92 }
theorem yX10_keepMap_ok : xY yX10_keepMap cX10_keepMap 2 (some .int) 1 := ⟨xT_at 446 (by decide +kernel) rfl, xT_at 1 (by decide +kernel) rfl, by decide +kernel, by decide +kernel, by decide +kernel⟩
theorem ivX10_keepMap : Cond.instanceMethod yX10_keepMap ∈ xT := xT_at 445 (by decide +kernel) rfl
theorem slX10_keepMap : Cond.selects yX10_keepMap.cls yX10_keepMap yX10_keepMap ∈ xT := xT_priv (n := 17) 19 (by decide +kernel)
def rX10_count : Room := { frames := 1, cells := 0, slots := 0, locals := 20 }
theorem yX10_count_ok : xY yX10_count cX10_count 2 (some .int) 1 := ⟨xT_at 450 (by decide +kernel) rfl, xT_at 1 (by decide +kernel) rfl, by decide +kernel, by decide +kernel, by decide +kernel⟩
theorem ivX10_count : Cond.instanceMethod yX10_count ∈ xT := xT_at 448 (by decide +kernel) rfl
theorem slX10_count : Cond.selects yX10_count.cls yX10_count yX10_count ∈ xT := xT_at 449 (by decide +kernel) rfl
def rX8_size : Room := { frames := 0, cells := 0, slots := 0, locals := 0 }
theorem yX8_size_ok : xY yX8_size cX8_size 1 (some .int) 0 := ⟨xT_at 454 (by decide +kernel) rfl, xT_at 2 (by decide +kernel) rfl, by decide +kernel, by decide +kernel, by decide +kernel⟩
theorem ivX8_size : Cond.instanceMethod yX8_size ∈ xT := xT_at 452 (by decide +kernel) rfl
theorem slX8_size : Cond.selects yX8_size.cls yX8_size yX8_size ∈ xT := xT_at 453 (by decide +kernel) rfl
def rX10_entry : Room := { frames := 1, cells := 0, slots := 0, locals := 22 }
theorem yX10_entry_ok : xY yX10_entry cX10_entry 3 (some .int) 2 := ⟨xT_at 459 (by decide +kernel) rfl, xT_at 1 (by decide +kernel) rfl, by decide +kernel, by decide +kernel, by decide +kernel⟩
theorem ivX10_entry : Cond.instanceMethod yX10_entry ∈ xT := xT_at 457 (by decide +kernel) rfl
theorem slX10_entry : Cond.selects yX10_entry.cls yX10_entry yX10_entry ∈ xT := xT_at 458 (by decide +kernel) rfl
def rX10_then : Room := { frames := 5, cells := 0, slots := 0, locals := 113 }
theorem yX10_then_ok : xY yX10_then cX10_then 3 (some .int) 2 := ⟨xT_at 463 (by decide +kernel) rfl, xT_at 1 (by decide +kernel) rfl, by decide +kernel, by decide +kernel, by decide +kernel⟩
theorem ivX10_then : Cond.instanceMethod yX10_then ∈ xT := xT_at 461 (by decide +kernel) rfl
theorem slX10_then : Cond.selects yX10_then.cls yX10_then yX10_then ∈ xT := xT_at 462 (by decide +kernel) rfl
def rX9_product : Room := { frames := 0, cells := 0, slots := 0, locals := 0 }
theorem yX9_product_ok : xY yX9_product cX9_product 5 (none : Option Jvm.ClassFile.FieldType) 3 := ⟨xT_at 466 (by decide +kernel) rfl, xT_at 9 (by decide +kernel) rfl, by decide +kernel, by decide +kernel, by decide +kernel⟩
theorem ssX9_product : Cond.static yX9_product ∈ xT := xT_at 465 (by decide +kernel) rfl
def rX10_back : Room := { frames := 5, cells := 0, slots := 0, locals := 113 }
theorem yX10_back_ok : xY yX10_back cX10_back 2 (some .int) 1 := ⟨xT_at 470 (by decide +kernel) rfl, xT_at 1 (by decide +kernel) rfl, by decide +kernel, by decide +kernel, by decide +kernel⟩
theorem ivX10_back : Cond.instanceMethod yX10_back ∈ xT := xT_at 468 (by decide +kernel) rfl
theorem slX10_back : Cond.selects yX10_back.cls yX10_back yX10_back ∈ xT := xT_at 469 (by decide +kernel) rfl
def rX9_adjugate : Room := { frames := 1, cells := 0, slots := 0, locals := 27 }
theorem yX9_adjugate_ok : xY yX9_adjugate cX9_adjugate 2 (none : Option Jvm.ClassFile.FieldType) 2 := ⟨xT_at 473 (by decide +kernel) rfl, xT_at 9 (by decide +kernel) rfl, by decide +kernel, by decide +kernel, by decide +kernel⟩
theorem ssX9_adjugate : Cond.static yX9_adjugate ∈ xT := xT_at 472 (by decide +kernel) rfl
def rX10_image : Room := { frames := 5, cells := 0, slots := 0, locals := 114 }
theorem yX10_image_ok : xY yX10_image cX10_image 4 (some .int) 2 := ⟨xT_at 478 (by decide +kernel) rfl, xT_at 1 (by decide +kernel) rfl, by decide +kernel, by decide +kernel, by decide +kernel⟩
theorem ivX10_image : Cond.instanceMethod yX10_image ∈ xT := xT_at 476 (by decide +kernel) rfl
theorem slX10_image : Cond.selects yX10_image.cls yX10_image yX10_image ∈ xT := xT_at 477 (by decide +kernel) rfl
def rX1_ofConic : Room := { frames := 2, cells := 0, slots := 0, locals := 49 }
theorem yX1_ofConic_ok : xY yX1_ofConic cX1_ofConic 3 (none : Option Jvm.ClassFile.FieldType) 2 := ⟨xT_at 482 (by decide +kernel) rfl, xT_at 6 (by decide +kernel) rfl, by decide +kernel, by decide +kernel, by decide +kernel⟩
theorem ivX1_ofConic : Cond.instanceMethod yX1_ofConic ∈ xT := xT_at 480 (by decide +kernel) rfl
theorem slX1_ofConic : Cond.selects yX1_ofConic.cls yX1_ofConic yX1_ofConic ∈ xT := xT_at 481 (by decide +kernel) rfl
def rX9_transpose : Room := { frames := 1, cells := 0, slots := 0, locals := 27 }
theorem yX9_transpose_ok : xY yX9_transpose cX9_transpose 3 (none : Option Jvm.ClassFile.FieldType) 2 := ⟨xT_at 486 (by decide +kernel) rfl, xT_at 9 (by decide +kernel) rfl, by decide +kernel, by decide +kernel, by decide +kernel⟩
theorem ssX9_transpose : Cond.static yX9_transpose ∈ xT := xT_at 485 (by decide +kernel) rfl
def rX9_apply : Room := { frames := 0, cells := 0, slots := 0, locals := 0 }
theorem yX9_apply_ok : xY yX9_apply cX9_apply 4 (none : Option Jvm.ClassFile.FieldType) 3 := ⟨xT_at 492 (by decide +kernel) rfl, xT_at 9 (by decide +kernel) rfl, by decide +kernel, by decide +kernel, by decide +kernel⟩
theorem ssX9_apply : Cond.static yX9_apply ∈ xT := xT_at 491 (by decide +kernel) rfl
def rX1_ofLine : Room := { frames := 2, cells := 0, slots := 0, locals := 49 }
theorem yX1_ofLine_ok : xY yX1_ofLine cX1_ofLine 4 (none : Option Jvm.ClassFile.FieldType) 3 := ⟨xT_at 496 (by decide +kernel) rfl, xT_at 6 (by decide +kernel) rfl, by decide +kernel, by decide +kernel, by decide +kernel⟩
theorem ivX1_ofLine : Cond.instanceMethod yX1_ofLine ∈ xT := xT_at 494 (by decide +kernel) rfl
theorem slX1_ofLine : Cond.selects yX1_ofLine.cls yX1_ofLine yX1_ofLine ∈ xT := xT_at 495 (by decide +kernel) rfl
def rX10_kind : Room := { frames := 4, cells := 0, slots := 0, locals := 103 }
theorem yX10_kind_ok : xY yX10_kind cX10_kind 2 (some .int) 1 := ⟨xT_at 501 (by decide +kernel) rfl, xT_at 1 (by decide +kernel) rfl, by decide +kernel, by decide +kernel, by decide +kernel⟩
theorem ivX10_kind : Cond.instanceMethod yX10_kind ∈ xT := xT_at 499 (by decide +kernel) rfl
theorem slX10_kind : Cond.selects yX10_kind.cls yX10_kind yX10_kind ∈ xT := xT_at 500 (by decide +kernel) rfl
def rX2_keepsFar : Room := { frames := 0, cells := 0, slots := 0, locals := 0 }
theorem yX2_keepsFar_ok : xY yX2_keepsFar cX2_keepsFar 1 (some .boolean) 1 := ⟨xT_at 504 (by decide +kernel) rfl, xT_at 13 (by decide +kernel) rfl, by decide +kernel, by decide +kernel, by decide +kernel⟩
theorem ssX2_keepsFar : Cond.static yX2_keepsFar ∈ xT := xT_at 503 (by decide +kernel) rfl
def rX2_ofAffine : Room := { frames := 2, cells := 0, slots := 0, locals := 44 }
theorem yX2_ofAffine_ok : xY yX2_ofAffine cX2_ofAffine 5 (some .int) 1 := ⟨xT_at 507 (by decide +kernel) rfl, xT_at 13 (by decide +kernel) rfl, by decide +kernel, by decide +kernel, by decide +kernel⟩
theorem ssX2_ofAffine : Cond.static yX2_ofAffine ∈ xT := xT_at 506 (by decide +kernel) rfl
def rX2_ofLikeness : Room := { frames := 1, cells := 0, slots := 0, locals := 21 }
theorem yX2_ofLikeness_ok : xY yX2_ofLikeness cX2_ofLikeness 1 (some .int) 1 := ⟨xT_at 510 (by decide +kernel) rfl, xT_at 13 (by decide +kernel) rfl, by decide +kernel, by decide +kernel, by decide +kernel⟩
theorem ssX2_ofLikeness : Cond.static yX2_ofLikeness ∈ xT := xT_at 509 (by decide +kernel) rfl
def rX2_allStays : Room := { frames := 0, cells := 0, slots := 0, locals := 0 }
theorem yX2_allStays_ok : xY yX2_allStays cX2_allStays 2 (some .boolean) 1 := ⟨xT_at 513 (by decide +kernel) rfl, xT_at 13 (by decide +kernel) rfl, by decide +kernel, by decide +kernel, by decide +kernel⟩
theorem ssX2_allStays : Cond.static yX2_allStays ∈ xT := xT_at 512 (by decide +kernel) rfl
def rX2_keepsSizes : Room := { frames := 0, cells := 0, slots := 0, locals := 0 }
theorem yX2_keepsSizes_ok : xY yX2_keepsSizes cX2_keepsSizes 1 (some .boolean) 1 := ⟨xT_at 516 (by decide +kernel) rfl, xT_at 13 (by decide +kernel) rfl, by decide +kernel, by decide +kernel, by decide +kernel⟩
theorem ssX2_keepsSizes : Cond.static yX2_keepsSizes ∈ xT := xT_at 515 (by decide +kernel) rfl
def rX2_ofTurnedOver : Room := { frames := 1, cells := 0, slots := 0, locals := 24 }
theorem yX2_ofTurnedOver_ok : xY yX2_ofTurnedOver cX2_ofTurnedOver 1 (some .int) 1 := ⟨xT_at 519 (by decide +kernel) rfl, xT_at 13 (by decide +kernel) rfl, by decide +kernel, by decide +kernel, by decide +kernel⟩
theorem ssX2_ofTurnedOver : Cond.static yX2_ofTurnedOver ∈ xT := xT_at 518 (by decide +kernel) rfl
def rX2_keepsLineOfPoints : Room := { frames := 0, cells := 0, slots := 0, locals := 0 }
theorem yX2_keepsLineOfPoints_ok : xY yX2_keepsLineOfPoints cX2_keepsLineOfPoints 5 (some .boolean) 1 := ⟨xT_at 522 (by decide +kernel) rfl, xT_at 13 (by decide +kernel) rfl, by decide +kernel, by decide +kernel, by decide +kernel⟩
theorem ssX2_keepsLineOfPoints : Cond.static yX2_keepsLineOfPoints ∈ xT := xT_at 521 (by decide +kernel) rfl
def rX2_ofProjective : Room := { frames := 3, cells := 0, slots := 0, locals := 79 }
theorem yX2_ofProjective_ok : xY yX2_ofProjective cX2_ofProjective 5 (some .int) 2 := ⟨xT_at 526 (by decide +kernel) rfl, xT_at 13 (by decide +kernel) rfl, by decide +kernel, by decide +kernel, by decide +kernel⟩
theorem ssX2_ofProjective : Cond.static yX2_ofProjective ∈ xT := xT_at 525 (by decide +kernel) rfl
def rX6_find : Room := { frames := 2, cells := 0, slots := 0, locals := 48 }
theorem yX6_find_ok : xY yX6_find cX6_find 12 (none : Option Jvm.ClassFile.FieldType) 1 := ⟨xT_at 530 (by decide +kernel) rfl, xT_at 7 (by decide +kernel) rfl, by decide +kernel, by decide +kernel, by decide +kernel⟩
theorem ivX6_find : Cond.instanceMethod yX6_find ∈ xT := xT_at 528 (by decide +kernel) rfl
theorem slX6_find : Cond.selects yX6_find.cls yX6_find yX6_find ∈ xT := xT_at 529 (by decide +kernel) rfl
def rX9_trace : Room := { frames := 0, cells := 0, slots := 0, locals := 0 }
theorem yX9_trace_ok : xY yX9_trace cX9_trace 1 (some .long) 1 := ⟨xT_at 534 (by decide +kernel) rfl, xT_at 9 (by decide +kernel) rfl, by decide +kernel, by decide +kernel, by decide +kernel⟩
theorem ssX9_trace : Cond.static yX9_trace ∈ xT := xT_at 533 (by decide +kernel) rfl
def rX6_widestRow : Room := { frames := 1, cells := 0, slots := 0, locals := 23 }
theorem yX6_widestRow_ok : xY yX6_widestRow cX6_widestRow 6 (some .long) 1 := ⟨xT_at 538 (by decide +kernel) rfl, xT_at 7 (by decide +kernel) rfl, by decide +kernel, by decide +kernel, by decide +kernel⟩
theorem ssX6_widestRow : Cond.static yX6_widestRow ∈ xT := xT_at 537 (by decide +kernel) rfl
def rX6_has : Room := { frames := 0, cells := 0, slots := 0, locals := 0 }
theorem yX6_has_ok : xY yX6_has cX6_has 2 (some .boolean) 1 := ⟨xT_at 550 (by decide +kernel) rfl, xT_at 7 (by decide +kernel) rfl, by decide +kernel, by decide +kernel, by decide +kernel⟩
theorem ivX6_has : Cond.instanceMethod yX6_has ∈ xT := xT_at 548 (by decide +kernel) rfl
theorem slX6_has : Cond.selects yX6_has.cls yX6_has yX6_has ∈ xT := xT_at 549 (by decide +kernel) rfl
def rX6_value : Room := { frames := 1, cells := 0, slots := 0, locals := 21 }
theorem yX6_value_ok : xY yX6_value cX6_value 2 (some .long) 1 := ⟨xT_at 554 (by decide +kernel) rfl, xT_at 7 (by decide +kernel) rfl, by decide +kernel, by decide +kernel, by decide +kernel⟩
theorem ivX6_value : Cond.instanceMethod yX6_value ∈ xT := xT_at 552 (by decide +kernel) rfl
theorem slX6_value : Cond.selects yX6_value.cls yX6_value yX6_value ∈ xT := xT_at 553 (by decide +kernel) rfl
def rX6_fixedBy : Room := { frames := 2, cells := 0, slots := 0, locals := 49 }
theorem yX6_fixedBy_ok : xY yX6_fixedBy cX6_fixedBy 4 (some .int) 2 := ⟨xT_at 559 (by decide +kernel) rfl, xT_at 7 (by decide +kernel) rfl, by decide +kernel, by decide +kernel, by decide +kernel⟩
theorem ivX6_fixedBy : Cond.instanceMethod yX6_fixedBy ∈ xT := xT_at 557 (by decide +kernel) rfl
theorem slX6_fixedBy : Cond.selects yX6_fixedBy.cls yX6_fixedBy yX6_fixedBy ∈ xT := xT_at 558 (by decide +kernel) rfl
def rX6_takeRow : Room := { frames := 1, cells := 0, slots := 0, locals := 23 }
theorem yX6_takeRow_ok : xY yX6_takeRow cX6_takeRow 3 (some .boolean) 1 := ⟨xT_at 567 (by decide +kernel) rfl, xT_at 7 (by decide +kernel) rfl, by decide +kernel, by decide +kernel, by decide +kernel⟩
theorem ivX6_takeRow : Cond.instanceMethod yX6_takeRow ∈ xT := xT_at 566 (by decide +kernel) rfl
theorem slX6_takeRow : Cond.selects yX6_takeRow.cls yX6_takeRow yX6_takeRow ∈ xT := xT_priv (n := 6) 20 (by decide +kernel)
def rX10_own : Room := { frames := 3, cells := 0, slots := 0, locals := 79 }
theorem yX10_own_ok : xY yX10_own cX10_own 3 (some .long) 2 := ⟨xT_at 573 (by decide +kernel) rfl, xT_at 1 (by decide +kernel) rfl, by decide +kernel, by decide +kernel, by decide +kernel⟩
theorem ivX10_own : Cond.instanceMethod yX10_own ∈ xT := xT_at 571 (by decide +kernel) rfl
theorem slX10_own : Cond.selects yX10_own.cls yX10_own yX10_own ∈ xT := xT_at 572 (by decide +kernel) rfl
def rX10_fixed : Room := { frames := 5, cells := 0, slots := 0, locals := 114 }
theorem yX10_fixed_ok : xY yX10_fixed cX10_fixed 4 (some .int) 2 := ⟨xT_at 580 (by decide +kernel) rfl, xT_at 1 (by decide +kernel) rfl, by decide +kernel, by decide +kernel, by decide +kernel⟩
theorem ivX10_fixed : Cond.instanceMethod yX10_fixed ∈ xT := xT_at 578 (by decide +kernel) rfl
theorem slX10_fixed : Cond.selects yX10_fixed.cls yX10_fixed yX10_fixed ∈ xT := xT_at 579 (by decide +kernel) rfl
def rX10_order : Room := { frames := 3, cells := 0, slots := 0, locals := 81 }
theorem yX10_order_ok : xY yX10_order cX10_order 4 (some .int) 2 := ⟨xT_at 585 (by decide +kernel) rfl, xT_at 1 (by decide +kernel) rfl, by decide +kernel, by decide +kernel, by decide +kernel⟩
theorem ivX10_order : Cond.instanceMethod yX10_order ∈ xT := xT_at 583 (by decide +kernel) rfl
theorem slX10_order : Cond.selects yX10_order.cls yX10_order yX10_order ∈ xT := xT_at 584 (by decide +kernel) rfl
def rX10_seed : Room := { frames := 1, cells := 0, slots := 0, locals := 21 }
theorem yX10_seed_ok : xY yX10_seed cX10_seed 2 (some .int) 1 := ⟨xT_at 591 (by decide +kernel) rfl, xT_at 1 (by decide +kernel) rfl, by decide +kernel, by decide +kernel, by decide +kernel⟩
theorem ivX10_seed : Cond.instanceMethod yX10_seed ∈ xT := xT_at 589 (by decide +kernel) rfl
theorem slX10_seed : Cond.selects yX10_seed.cls yX10_seed yX10_seed ∈ xT := xT_at 590 (by decide +kernel) rfl
def rX10_group : Room := { frames := 6, cells := 0, slots := 0, locals := 137 }
theorem yX10_group_ok : xY yX10_group cX10_group 3 (some .int) 1 := ⟨xT_at 595 (by decide +kernel) rfl, xT_at 1 (by decide +kernel) rfl, by decide +kernel, by decide +kernel, by decide +kernel⟩
theorem ivX10_group : Cond.instanceMethod yX10_group ∈ xT := xT_at 593 (by decide +kernel) rfl
theorem slX10_group : Cond.selects yX10_group.cls yX10_group yX10_group ∈ xT := xT_at 594 (by decide +kernel) rfl
def rX0_grow : Room := { frames := 5, cells := 0, slots := 0, locals := 112 }
theorem yX0_grow_ok : xY yX0_grow cX0_grow 6 (some .int) 3 := ⟨xT_at 599 (by decide +kernel) rfl, xT_at 8 (by decide +kernel) rfl, by decide +kernel, by decide +kernel, by decide +kernel⟩
theorem ivX0_grow : Cond.instanceMethod yX0_grow ∈ xT := xT_at 597 (by decide +kernel) rfl
theorem slX0_grow : Cond.selects yX0_grow.cls yX0_grow yX0_grow ∈ xT := xT_at 598 (by decide +kernel) rfl
def rX10_element : Room := { frames := 1, cells := 0, slots := 0, locals := 22 }
theorem yX10_element_ok : xY yX10_element cX10_element 4 (some .int) 2 := ⟨xT_at 611 (by decide +kernel) rfl, xT_at 1 (by decide +kernel) rfl, by decide +kernel, by decide +kernel, by decide +kernel⟩
theorem ivX10_element : Cond.instanceMethod yX10_element ∈ xT := xT_at 609 (by decide +kernel) rfl
theorem slX10_element : Cond.selects yX10_element.cls yX10_element yX10_element ∈ xT := xT_at 610 (by decide +kernel) rfl
def rX10_among : Room := { frames := 3, cells := 0, slots := 0, locals := 68 }
theorem yX10_among_ok : xY yX10_among cX10_among 3 (some .int) 1 := ⟨xT_at 615 (by decide +kernel) rfl, xT_at 1 (by decide +kernel) rfl, by decide +kernel, by decide +kernel, by decide +kernel⟩
theorem ivX10_among : Cond.instanceMethod yX10_among ∈ xT := xT_at 613 (by decide +kernel) rfl
theorem slX10_among : Cond.selects yX10_among.cls yX10_among yX10_among ∈ xT := xT_at 614 (by decide +kernel) rfl
def rX11_point : Room := { frames := 4, cells := 0, slots := 0, locals := 106 }
theorem yX11_point_ok : xY yX11_point cX11_point 4 (some .int) 3 := ⟨xT_at 681 (by decide +kernel) rfl, xT_at 10 (by decide +kernel) rfl, by decide +kernel, by decide +kernel, by decide +kernel⟩
theorem ivX11_point : Cond.instanceMethod yX11_point ∈ xT := xT_at 679 (by decide +kernel) rfl
theorem slX11_point : Cond.selects yX11_point.cls yX11_point yX11_point ∈ xT := xT_at 680 (by decide +kernel) rfl
def rX11_three : Room := { frames := 3, cells := 0, slots := 0, locals := 82 }
theorem yX11_three_ok : xY yX11_three cX11_three 5 (some .int) 4 := ⟨xT_at 685 (by decide +kernel) rfl, xT_at 10 (by decide +kernel) rfl, by decide +kernel, by decide +kernel, by decide +kernel⟩
theorem ivX11_three : Cond.instanceMethod yX11_three ∈ xT := xT_at 684 (by decide +kernel) rfl
theorem slX11_three : Cond.selects yX11_three.cls yX11_three yX11_three ∈ xT := xT_priv (n := 18) 21 (by decide +kernel)
def rX11_in : Room := { frames := 0, cells := 0, slots := 0, locals := 0 }
theorem yX11_in_ok : xY yX11_in cX11_in 6 (some .boolean) 3 := ⟨xT_at 690 (by decide +kernel) rfl, xT_at 10 (by decide +kernel) rfl, by decide +kernel, by decide +kernel, by decide +kernel⟩
theorem ssX11_in : Cond.static yX11_in ∈ xT := xT_at 689 (by decide +kernel) rfl
def rX11_object : Room := { frames := 2, cells := 0, slots := 0, locals := 57 }
theorem yX11_object_ok : xY yX11_object cX11_object 6 (some .int) 1 := ⟨xT_at 694 (by decide +kernel) rfl, xT_at 10 (by decide +kernel) rfl, by decide +kernel, by decide +kernel, by decide +kernel⟩
theorem ivX11_object : Cond.instanceMethod yX11_object ∈ xT := xT_at 693 (by decide +kernel) rfl
theorem slX11_object : Cond.selects yX11_object.cls yX11_object yX11_object ∈ xT := xT_priv (n := 18) 22 (by decide +kernel)
def rX11_least : Room := { frames := 1, cells := 0, slots := 0, locals := 29 }
theorem yX11_least_ok : xY yX11_least cX11_least 9 (some .boolean) 2 := ⟨xT_at 698 (by decide +kernel) rfl, xT_at 10 (by decide +kernel) rfl, by decide +kernel, by decide +kernel, by decide +kernel⟩
theorem ivX11_least : Cond.instanceMethod yX11_least ∈ xT := xT_at 697 (by decide +kernel) rfl
theorem slX11_least : Cond.selects yX11_least.cls yX11_least yX11_least ∈ xT := xT_priv (n := 18) 23 (by decide +kernel)
def rX11_gcd : Room := { frames := 0, cells := 0, slots := 0, locals := 0 }
theorem yX11_gcd_ok : xY yX11_gcd cX11_gcd 10 (some .long) 2 := ⟨xT_at 701 (by decide +kernel) rfl, xT_at 10 (by decide +kernel) rfl, by decide +kernel, by decide +kernel, by decide +kernel⟩
theorem ssX11_gcd : Cond.static yX11_gcd ∈ xT := xT_at 700 (by decide +kernel) rfl
def rX11_line : Room := { frames := 4, cells := 0, slots := 0, locals := 106 }
theorem yX11_line_ok : xY yX11_line cX11_line 4 (some .int) 3 := ⟨xT_at 706 (by decide +kernel) rfl, xT_at 10 (by decide +kernel) rfl, by decide +kernel, by decide +kernel, by decide +kernel⟩
theorem ivX11_line : Cond.instanceMethod yX11_line ∈ xT := xT_at 704 (by decide +kernel) rfl
theorem slX11_line : Cond.selects yX11_line.cls yX11_line yX11_line ∈ xT := xT_at 705 (by decide +kernel) rfl
def rX11_conic : Room := { frames := 3, cells := 0, slots := 0, locals := 82 }
theorem yX11_conic_ok : xY yX11_conic cX11_conic 7 (some .int) 6 := ⟨xT_at 710 (by decide +kernel) rfl, xT_at 10 (by decide +kernel) rfl, by decide +kernel, by decide +kernel, by decide +kernel⟩
theorem ivX11_conic : Cond.instanceMethod yX11_conic ∈ xT := xT_at 708 (by decide +kernel) rfl
theorem slX11_conic : Cond.selects yX11_conic.cls yX11_conic yX11_conic ∈ xT := xT_at 709 (by decide +kernel) rfl
def rX11_number : Room := { frames := 1, cells := 0, slots := 0, locals := 25 }
theorem yX11_number_ok : xY yX11_number cX11_number 3 (some .int) 2 := ⟨xT_at 714 (by decide +kernel) rfl, xT_at 10 (by decide +kernel) rfl, by decide +kernel, by decide +kernel, by decide +kernel⟩
theorem ivX11_number : Cond.instanceMethod yX11_number ∈ xT := xT_at 712 (by decide +kernel) rfl
theorem slX11_number : Cond.selects yX11_number.cls yX11_number yX11_number ∈ xT := xT_at 713 (by decide +kernel) rfl
def rX11_join : Room := { frames := 3, cells := 0, slots := 0, locals := 82 }
theorem yX11_join_ok : xY yX11_join cX11_join 3 (some .int) 2 := ⟨xT_at 720 (by decide +kernel) rfl, xT_at 10 (by decide +kernel) rfl, by decide +kernel, by decide +kernel, by decide +kernel⟩
theorem ivX11_join : Cond.instanceMethod yX11_join ∈ xT := xT_at 718 (by decide +kernel) rfl
theorem slX11_join : Cond.selects yX11_join.cls yX11_join yX11_join ∈ xT := xT_at 719 (by decide +kernel) rfl
def rX11_isSort : Room := { frames := 0, cells := 0, slots := 0, locals := 0 }
theorem yX11_isSort_ok : xY yX11_isSort cX11_isSort 3 (some .boolean) 2 := ⟨xT_at 724 (by decide +kernel) rfl, xT_at 10 (by decide +kernel) rfl, by decide +kernel, by decide +kernel, by decide +kernel⟩
theorem ivX11_isSort : Cond.instanceMethod yX11_isSort ∈ xT := xT_at 723 (by decide +kernel) rfl
theorem slX11_isSort : Cond.selects yX11_isSort.cls yX11_isSort yX11_isSort ∈ xT := xT_priv (n := 18) 24 (by decide +kernel)
def rX11_crossOf : Room := { frames := 1, cells := 0, slots := 0, locals := 22 }
theorem yX11_crossOf_ok : xY yX11_crossOf cX11_crossOf 6 (none : Option Jvm.ClassFile.FieldType) 2 := ⟨xT_at 728 (by decide +kernel) rfl, xT_at 10 (by decide +kernel) rfl, by decide +kernel, by decide +kernel, by decide +kernel⟩
theorem ivX11_crossOf : Cond.instanceMethod yX11_crossOf ∈ xT := xT_at 727 (by decide +kernel) rfl
theorem slX11_crossOf : Cond.selects yX11_crossOf.cls yX11_crossOf yX11_crossOf ∈ xT := xT_priv (n := 18) 25 (by decide +kernel)
def rX11_at : Room := { frames := 0, cells := 0, slots := 0, locals := 0 }
theorem yX11_at_ok : xY yX11_at cX11_at 3 (some .long) 2 := ⟨xT_at 732 (by decide +kernel) rfl, xT_at 10 (by decide +kernel) rfl, by decide +kernel, by decide +kernel, by decide +kernel⟩
theorem ivX11_at : Cond.instanceMethod yX11_at ∈ xT := xT_at 731 (by decide +kernel) rfl
theorem slX11_at : Cond.selects yX11_at.cls yX11_at yX11_at ∈ xT := xT_priv (n := 18) 26 (by decide +kernel)
def rX11_on : Room := { frames := 2, cells := 0, slots := 0, locals := 44 }
theorem yX11_on_ok : xY yX11_on cX11_on 11 (some .int) 2 := ⟨xT_at 736 (by decide +kernel) rfl, xT_at 10 (by decide +kernel) rfl, by decide +kernel, by decide +kernel, by decide +kernel⟩
theorem ivX11_on : Cond.instanceMethod yX11_on ∈ xT := xT_at 734 (by decide +kernel) rfl
theorem slX11_on : Cond.selects yX11_on.cls yX11_on yX11_on ∈ xT := xT_at 735 (by decide +kernel) rfl
def rX11_dot : Room := { frames := 1, cells := 0, slots := 0, locals := 22 }
theorem yX11_dot_ok : xY yX11_dot cX11_dot 3 (some .long) 2 := ⟨xT_at 740 (by decide +kernel) rfl, xT_at 10 (by decide +kernel) rfl, by decide +kernel, by decide +kernel, by decide +kernel⟩
theorem ivX11_dot : Cond.instanceMethod yX11_dot ∈ xT := xT_at 739 (by decide +kernel) rfl
theorem slX11_dot : Cond.selects yX11_dot.cls yX11_dot yX11_dot ∈ xT := xT_priv (n := 18) 27 (by decide +kernel)
def rX11_shape : Room := { frames := 1, cells := 0, slots := 0, locals := 22 }
theorem yX11_shape_ok : xY yX11_shape cX11_shape 18 (some .int) 1 := ⟨xT_at 744 (by decide +kernel) rfl, xT_at 10 (by decide +kernel) rfl, by decide +kernel, by decide +kernel, by decide +kernel⟩
theorem ivX11_shape : Cond.instanceMethod yX11_shape ∈ xT := xT_at 742 (by decide +kernel) rfl
theorem slX11_shape : Cond.selects yX11_shape.cls yX11_shape yX11_shape ∈ xT := xT_at 743 (by decide +kernel) rfl
def rX11_cross : Room := { frames := 3, cells := 0, slots := 0, locals := 73 }
theorem yX11_cross_ok : xY yX11_cross cX11_cross 14 (some .long) 5 := ⟨xT_at 749 (by decide +kernel) rfl, xT_at 10 (by decide +kernel) rfl, by decide +kernel, by decide +kernel, by decide +kernel⟩
theorem ivX11_cross : Cond.instanceMethod yX11_cross ∈ xT := xT_at 747 (by decide +kernel) rfl
theorem slX11_cross : Cond.selects yX11_cross.cls yX11_cross yX11_cross ∈ xT := xT_at 748 (by decide +kernel) rfl
def rX11_areInLine : Room := { frames := 2, cells := 0, slots := 0, locals := 47 }
theorem yX11_areInLine_ok : xY yX11_areInLine cX11_areInLine 7 (some .boolean) 3 := ⟨xT_at 753 (by decide +kernel) rfl, xT_at 10 (by decide +kernel) rfl, by decide +kernel, by decide +kernel, by decide +kernel⟩
theorem ivX11_areInLine : Cond.instanceMethod yX11_areInLine ∈ xT := xT_at 752 (by decide +kernel) rfl
theorem slX11_areInLine : Cond.selects yX11_areInLine.cls yX11_areInLine yX11_areInLine ∈ xT := xT_priv (n := 18) 28 (by decide +kernel)
def rX11_part : Room := { frames := 1, cells := 0, slots := 0, locals := 22 }
theorem yX11_part_ok : xY yX11_part cX11_part 6 (some .long) 3 := ⟨xT_at 757 (by decide +kernel) rfl, xT_at 10 (by decide +kernel) rfl, by decide +kernel, by decide +kernel, by decide +kernel⟩
theorem ivX11_part : Cond.instanceMethod yX11_part ∈ xT := xT_at 756 (by decide +kernel) rfl
theorem slX11_part : Cond.selects yX11_part.cls yX11_part yX11_part ∈ xT := xT_priv (n := 18) 29 (by decide +kernel)
def rX11_give : Room := { frames := 0, cells := 0, slots := 0, locals := 0 }
theorem yX11_give_ok : xY yX11_give cX11_give 2 (some .int) 1 := ⟨xT_at 762 (by decide +kernel) rfl, xT_at 10 (by decide +kernel) rfl, by decide +kernel, by decide +kernel, by decide +kernel⟩
theorem ivX11_give : Cond.instanceMethod yX11_give ∈ xT := xT_at 760 (by decide +kernel) rfl
theorem slX11_give : Cond.selects yX11_give.cls yX11_give yX11_give ∈ xT := xT_at 761 (by decide +kernel) rfl
def rX11_make : Room := { frames := 6, cells := 0, slots := 0, locals := 145 }
theorem yX11_make_ok : xY yX11_make cX11_make 6 (some .int) 3 := ⟨xT_at 766 (by decide +kernel) rfl, xT_at 10 (by decide +kernel) rfl, by decide +kernel, by decide +kernel, by decide +kernel⟩
theorem ivX11_make : Cond.instanceMethod yX11_make ∈ xT := xT_at 764 (by decide +kernel) rfl
theorem slX11_make : Cond.selects yX11_make.cls yX11_make yX11_make ∈ xT := xT_at 765 (by decide +kernel) rfl
def rX11_mirror : Room := { frames := 2, cells := 0, slots := 0, locals := 43 }
theorem yX11_mirror_ok : xY yX11_mirror cX11_mirror 7 (some .boolean) 0 := ⟨xT_at 773 (by decide +kernel) rfl, xT_at 10 (by decide +kernel) rfl, by decide +kernel, by decide +kernel, by decide +kernel⟩
theorem ivX11_mirror : Cond.instanceMethod yX11_mirror ∈ xT := xT_at 772 (by decide +kernel) rfl
theorem slX11_mirror : Cond.selects yX11_mirror.cls yX11_mirror yX11_mirror ∈ xT := xT_priv (n := 18) 30 (by decide +kernel)
def rX11_areGiven : Room := { frames := 0, cells := 0, slots := 0, locals := 0 }
theorem yX11_areGiven_ok : xY yX11_areGiven cX11_areGiven 5 (some .boolean) 2 := ⟨xT_at 777 (by decide +kernel) rfl, xT_at 10 (by decide +kernel) rfl, by decide +kernel, by decide +kernel, by decide +kernel⟩
theorem ivX11_areGiven : Cond.instanceMethod yX11_areGiven ∈ xT := xT_at 776 (by decide +kernel) rfl
theorem slX11_areGiven : Cond.selects yX11_areGiven.cls yX11_areGiven yX11_areGiven ∈ xT := xT_priv (n := 18) 31 (by decide +kernel)
def rX11_isFar : Room := { frames := 1, cells := 0, slots := 0, locals := 22 }
theorem yX11_isFar_ok : xY yX11_isFar cX11_isFar 2 (some .boolean) 1 := ⟨xT_at 781 (by decide +kernel) rfl, xT_at 10 (by decide +kernel) rfl, by decide +kernel, by decide +kernel, by decide +kernel⟩
theorem ivX11_isFar : Cond.instanceMethod yX11_isFar ∈ xT := xT_at 780 (by decide +kernel) rfl
theorem slX11_isFar : Cond.selects yX11_isFar.cls yX11_isFar yX11_isFar ∈ xT := xT_priv (n := 18) 32 (by decide +kernel)
def rX11_set : Room := { frames := 0, cells := 0, slots := 0, locals := 0 }
theorem yX11_set_ok : xY yX11_set cX11_set 13 (none : Option Jvm.ClassFile.FieldType) 6 := ⟨xT_at 786 (by decide +kernel) rfl, xT_at 10 (by decide +kernel) rfl, by decide +kernel, by decide +kernel, by decide +kernel⟩
theorem ivX11_set : Cond.instanceMethod yX11_set ∈ xT := xT_at 785 (by decide +kernel) rfl
theorem slX11_set : Cond.selects yX11_set.cls yX11_set yX11_set ∈ xT := xT_priv (n := 18) 33 (by decide +kernel)
def rX11_glide : Room := { frames := 3, cells := 0, slots := 0, locals := 69 }
theorem yX11_glide_ok : xY yX11_glide cX11_glide 10 (some .boolean) 2 := ⟨xT_at 790 (by decide +kernel) rfl, xT_at 10 (by decide +kernel) rfl, by decide +kernel, by decide +kernel, by decide +kernel⟩
theorem ivX11_glide : Cond.instanceMethod yX11_glide ∈ xT := xT_at 789 (by decide +kernel) rfl
theorem slX11_glide : Cond.selects yX11_glide.cls yX11_glide yX11_glide ∈ xT := xT_priv (n := 18) 34 (by decide +kernel)
def rX11_times : Room := { frames := 0, cells := 0, slots := 0, locals := 0 }
theorem yX11_times_ok : xY yX11_times cX11_times 5 (none : Option Jvm.ClassFile.FieldType) 3 := ⟨xT_at 793 (by decide +kernel) rfl, xT_at 10 (by decide +kernel) rfl, by decide +kernel, by decide +kernel, by decide +kernel⟩
theorem ssX11_times : Cond.static yX11_times ∈ xT := xT_at 792 (by decide +kernel) rfl
def rX11_any : Room := { frames := 1, cells := 0, slots := 0, locals := 24 }
theorem yX11_any_ok : xY yX11_any cX11_any 2 (some .boolean) 0 := ⟨xT_at 797 (by decide +kernel) rfl, xT_at 10 (by decide +kernel) rfl, by decide +kernel, by decide +kernel, by decide +kernel⟩
theorem ivX11_any : Cond.instanceMethod yX11_any ∈ xT := xT_at 796 (by decide +kernel) rfl
theorem slX11_any : Cond.selects yX11_any.cls yX11_any yX11_any ∈ xT := xT_priv (n := 18) 35 (by decide +kernel)
def rX11_det : Room := { frames := 0, cells := 0, slots := 0, locals := 0 }
theorem yX11_det_ok : xY yX11_det cX11_det 1 (some .long) 1 := ⟨xT_at 800 (by decide +kernel) rfl, xT_at 10 (by decide +kernel) rfl, by decide +kernel, by decide +kernel, by decide +kernel⟩
theorem ssX11_det : Cond.static yX11_det ∈ xT := xT_at 799 (by decide +kernel) rfl
def rX11_simple : Room := { frames := 2, cells := 0, slots := 0, locals := 43 }
theorem yX11_simple_ok : xY yX11_simple cX11_simple 18 (some .boolean) 3 := ⟨xT_at 804 (by decide +kernel) rfl, xT_at 10 (by decide +kernel) rfl, by decide +kernel, by decide +kernel, by decide +kernel⟩
theorem ivX11_simple : Cond.instanceMethod yX11_simple ∈ xT := xT_at 803 (by decide +kernel) rfl
theorem slX11_simple : Cond.selects yX11_simple.cls yX11_simple yX11_simple ∈ xT := xT_priv (n := 18) 36 (by decide +kernel)
def rX11_mayBe : Room := { frames := 3, cells := 0, slots := 0, locals := 73 }
theorem yX11_mayBe_ok : xY yX11_mayBe cX11_mayBe 5 (some .boolean) 1 := ⟨xT_at 808 (by decide +kernel) rfl, xT_at 10 (by decide +kernel) rfl, by decide +kernel, by decide +kernel, by decide +kernel⟩
theorem ivX11_mayBe : Cond.instanceMethod yX11_mayBe ∈ xT := xT_at 807 (by decide +kernel) rfl
theorem slX11_mayBe : Cond.selects yX11_mayBe.cls yX11_mayBe yX11_mayBe ∈ xT := xT_priv (n := 18) 37 (by decide +kernel)
def rX11_byPoints : Room := { frames := 5, cells := 0, slots := 0, locals := 122 }
theorem yX11_byPoints_ok : xY yX11_byPoints cX11_byPoints 4 (some .int) 1 := ⟨xT_at 812 (by decide +kernel) rfl, xT_at 10 (by decide +kernel) rfl, by decide +kernel, by decide +kernel, by decide +kernel⟩
theorem ivX11_byPoints : Cond.instanceMethod yX11_byPoints ∈ xT := xT_at 811 (by decide +kernel) rfl
theorem slX11_byPoints : Cond.selects yX11_byPoints.cls yX11_byPoints yX11_byPoints ∈ xT := xT_priv (n := 18) 38 (by decide +kernel)
def rX11_likeness : Room := { frames := 3, cells := 0, slots := 0, locals := 74 }
theorem yX11_likeness_ok : xY yX11_likeness cX11_likeness 15 (none : Option Jvm.ClassFile.FieldType) 0 := ⟨xT_at 819 (by decide +kernel) rfl, xT_at 10 (by decide +kernel) rfl, by decide +kernel, by decide +kernel, by decide +kernel⟩
theorem ivX11_likeness : Cond.instanceMethod yX11_likeness ∈ xT := xT_at 818 (by decide +kernel) rfl
theorem slX11_likeness : Cond.selects yX11_likeness.cls yX11_likeness yX11_likeness ∈ xT := xT_priv (n := 18) 39 (by decide +kernel)
def rX11_place : Room := { frames := 2, cells := 0, slots := 0, locals := 52 }
theorem yX11_place_ok : xY yX11_place cX11_place 3 (some .long) 2 := ⟨xT_at 823 (by decide +kernel) rfl, xT_at 10 (by decide +kernel) rfl, by decide +kernel, by decide +kernel, by decide +kernel⟩
theorem ivX11_place : Cond.instanceMethod yX11_place ∈ xT := xT_at 822 (by decide +kernel) rfl
theorem slX11_place : Cond.selects yX11_place.cls yX11_place yX11_place ∈ xT := xT_priv (n := 18) 40 (by decide +kernel)
def rX11_mod : Room := { frames := 0, cells := 0, slots := 0, locals := 0 }
theorem yX11_mod_ok : xY yX11_mod cX11_mod 5 (some .long) 1 := ⟨xT_at 827 (by decide +kernel) rfl, xT_at 10 (by decide +kernel) rfl, by decide +kernel, by decide +kernel, by decide +kernel⟩
theorem ivX11_mod : Cond.instanceMethod yX11_mod ∈ xT := xT_at 826 (by decide +kernel) rfl
theorem slX11_mod : Cond.selects yX11_mod.cls yX11_mod yX11_mod ∈ xT := xT_priv (n := 18) 41 (by decide +kernel)
def rX11_inverse : Room := { frames := 1, cells := 0, slots := 0, locals := 24 }
theorem yX11_inverse_ok : xY yX11_inverse cX11_inverse 9 (some .long) 1 := ⟨xT_at 831 (by decide +kernel) rfl, xT_at 10 (by decide +kernel) rfl, by decide +kernel, by decide +kernel, by decide +kernel⟩
theorem ivX11_inverse : Cond.instanceMethod yX11_inverse ∈ xT := xT_at 830 (by decide +kernel) rfl
theorem slX11_inverse : Cond.selects yX11_inverse.cls yX11_inverse yX11_inverse ∈ xT := xT_priv (n := 18) 42 (by decide +kernel)
def rX11_affine : Room := { frames := 3, cells := 0, slots := 0, locals := 70 }
theorem yX11_affine_ok : xY yX11_affine cX11_affine 8 (none : Option Jvm.ClassFile.FieldType) 0 := ⟨xT_at 835 (by decide +kernel) rfl, xT_at 10 (by decide +kernel) rfl, by decide +kernel, by decide +kernel, by decide +kernel⟩
theorem ivX11_affine : Cond.instanceMethod yX11_affine ∈ xT := xT_at 834 (by decide +kernel) rfl
theorem slX11_affine : Cond.selects yX11_affine.cls yX11_affine yX11_affine ∈ xT := xT_priv (n := 18) 43 (by decide +kernel)
def rX11_turned : Room := { frames := 2, cells := 0, slots := 0, locals := 47 }
theorem yX11_turned_ok : xY yX11_turned cX11_turned 4 (some .long) 3 := ⟨xT_at 839 (by decide +kernel) rfl, xT_at 10 (by decide +kernel) rfl, by decide +kernel, by decide +kernel, by decide +kernel⟩
theorem ivX11_turned : Cond.instanceMethod yX11_turned ∈ xT := xT_at 838 (by decide +kernel) rfl
theorem slX11_turned : Cond.selects yX11_turned.cls yX11_turned yX11_turned ∈ xT := xT_priv (n := 18) 44 (by decide +kernel)
def rX11_projective : Room := { frames := 4, cells := 0, slots := 0, locals := 95 }
theorem yX11_projective_ok : xY yX11_projective cX11_projective 8 (none : Option Jvm.ClassFile.FieldType) 0 := ⟨xT_at 843 (by decide +kernel) rfl, xT_at 10 (by decide +kernel) rfl, by decide +kernel, by decide +kernel, by decide +kernel⟩
theorem ivX11_projective : Cond.instanceMethod yX11_projective ∈ xT := xT_at 842 (by decide +kernel) rfl
theorem slX11_projective : Cond.selects yX11_projective.cls yX11_projective yX11_projective ∈ xT := xT_priv (n := 18) 45 (by decide +kernel)
def rX11_share : Room := { frames := 3, cells := 0, slots := 0, locals := 70 }
theorem yX11_share_ok : xY yX11_share cX11_share 6 (some .long) 2 := ⟨xT_at 847 (by decide +kernel) rfl, xT_at 10 (by decide +kernel) rfl, by decide +kernel, by decide +kernel, by decide +kernel⟩
theorem ivX11_share : Cond.instanceMethod yX11_share ∈ xT := xT_at 846 (by decide +kernel) rfl
theorem slX11_share : Cond.selects yX11_share.cls yX11_share yX11_share ∈ xT := xT_priv (n := 18) 46 (by decide +kernel)
def rX11_tellBack : Room := { frames := 2, cells := 0, slots := 0, locals := 57 }
theorem yX11_tellBack_ok : xY yX11_tellBack cX11_tellBack 7 (some .boolean) 0 := ⟨xT_at 851 (by decide +kernel) rfl, xT_at 10 (by decide +kernel) rfl, by decide +kernel, by decide +kernel, by decide +kernel⟩
theorem ivX11_tellBack : Cond.instanceMethod yX11_tellBack ∈ xT := xT_at 850 (by decide +kernel) rfl
theorem slX11_tellBack : Cond.selects yX11_tellBack.cls yX11_tellBack yX11_tellBack ∈ xT := xT_priv (n := 18) 47 (by decide +kernel)
def rX11_small : Room := { frames := 0, cells := 0, slots := 0, locals := 0 }
theorem yX11_small_ok : xY yX11_small cX11_small 7 (some .boolean) 1 := ⟨xT_at 855 (by decide +kernel) rfl, xT_at 10 (by decide +kernel) rfl, by decide +kernel, by decide +kernel, by decide +kernel⟩
theorem ivX11_small : Cond.instanceMethod yX11_small ∈ xT := xT_at 854 (by decide +kernel) rfl
theorem slX11_small : Cond.selects yX11_small.cls yX11_small yX11_small ∈ xT := xT_priv (n := 18) 48 (by decide +kernel)
def rX11_isTried : Room := { frames := 2, cells := 0, slots := 0, locals := 46 }
theorem yX11_isTried_ok : xY yX11_isTried cX11_isTried 5 (some .boolean) 2 := ⟨xT_at 859 (by decide +kernel) rfl, xT_at 10 (by decide +kernel) rfl, by decide +kernel, by decide +kernel, by decide +kernel⟩
theorem ivX11_isTried : Cond.instanceMethod yX11_isTried ∈ xT := xT_at 858 (by decide +kernel) rfl
theorem slX11_isTried : Cond.selects yX11_isTried.cls yX11_isTried yX11_isTried ∈ xT := xT_priv (n := 18) 49 (by decide +kernel)
def rX11_takes : Room := { frames := 1, cells := 0, slots := 0, locals := 22 }
theorem yX11_takes_ok : xY yX11_takes cX11_takes 5 (some .boolean) 2 := ⟨xT_at 863 (by decide +kernel) rfl, xT_at 10 (by decide +kernel) rfl, by decide +kernel, by decide +kernel, by decide +kernel⟩
theorem ivX11_takes : Cond.instanceMethod yX11_takes ∈ xT := xT_at 862 (by decide +kernel) rfl
theorem slX11_takes : Cond.selects yX11_takes.cls yX11_takes yX11_takes ∈ xT := xT_priv (n := 18) 50 (by decide +kernel)
def rX11_map : Room := { frames := 2, cells := 0, slots := 0, locals := 57 }
theorem yX11_map_ok : xY yX11_map cX11_map 4 (some .int) 0 := ⟨xT_at 867 (by decide +kernel) rfl, xT_at 10 (by decide +kernel) rfl, by decide +kernel, by decide +kernel, by decide +kernel⟩
theorem ivX11_map : Cond.instanceMethod yX11_map ∈ xT := xT_at 866 (by decide +kernel) rfl
theorem slX11_map : Cond.selects yX11_map.cls yX11_map yX11_map ∈ xT := xT_priv (n := 18) 51 (by decide +kernel)
def rX11_count : Room := { frames := 0, cells := 0, slots := 0, locals := 0 }
theorem yX11_count_ok : xY yX11_count cX11_count 2 (some .int) 1 := ⟨xT_at 871 (by decide +kernel) rfl, xT_at 10 (by decide +kernel) rfl, by decide +kernel, by decide +kernel, by decide +kernel⟩
theorem ivX11_count : Cond.instanceMethod yX11_count ∈ xT := xT_at 869 (by decide +kernel) rfl
theorem slX11_count : Cond.selects yX11_count.cls yX11_count yX11_count ∈ xT := xT_at 870 (by decide +kernel) rfl
def rX11_entry : Room := { frames := 1, cells := 0, slots := 0, locals := 25 }
theorem yX11_entry_ok : xY yX11_entry cX11_entry 3 (some .int) 2 := ⟨xT_at 875 (by decide +kernel) rfl, xT_at 10 (by decide +kernel) rfl, by decide +kernel, by decide +kernel, by decide +kernel⟩
theorem ivX11_entry : Cond.instanceMethod yX11_entry ∈ xT := xT_at 873 (by decide +kernel) rfl
theorem slX11_entry : Cond.selects yX11_entry.cls yX11_entry yX11_entry ∈ xT := xT_at 874 (by decide +kernel) rfl
def rX11_isMap : Room := { frames := 0, cells := 0, slots := 0, locals := 0 }
theorem yX11_isMap_ok : xY yX11_isMap cX11_isMap 2 (some .boolean) 1 := ⟨xT_at 879 (by decide +kernel) rfl, xT_at 10 (by decide +kernel) rfl, by decide +kernel, by decide +kernel, by decide +kernel⟩
theorem ivX11_isMap : Cond.instanceMethod yX11_isMap ∈ xT := xT_at 878 (by decide +kernel) rfl
theorem slX11_isMap : Cond.selects yX11_isMap.cls yX11_isMap yX11_isMap ∈ xT := xT_priv (n := 18) 52 (by decide +kernel)
def rX11_then : Room := { frames := 3, cells := 0, slots := 0, locals := 80 }
theorem yX11_then_ok : xY yX11_then cX11_then 3 (some .int) 2 := ⟨xT_at 883 (by decide +kernel) rfl, xT_at 10 (by decide +kernel) rfl, by decide +kernel, by decide +kernel, by decide +kernel⟩
theorem ivX11_then : Cond.instanceMethod yX11_then ∈ xT := xT_at 881 (by decide +kernel) rfl
theorem slX11_then : Cond.selects yX11_then.cls yX11_then yX11_then ∈ xT := xT_at 882 (by decide +kernel) rfl
def rX11_bring : Room := { frames := 0, cells := 0, slots := 0, locals := 0 }
theorem yX11_bring_ok : xY yX11_bring cX11_bring 4 (none : Option Jvm.ClassFile.FieldType) 2 := ⟨xT_at 887 (by decide +kernel) rfl, xT_at 10 (by decide +kernel) rfl, by decide +kernel, by decide +kernel, by decide +kernel⟩
theorem ivX11_bring : Cond.instanceMethod yX11_bring ∈ xT := xT_at 886 (by decide +kernel) rfl
theorem slX11_bring : Cond.selects yX11_bring.cls yX11_bring yX11_bring ∈ xT := xT_priv (n := 18) 53 (by decide +kernel)
def rX11_back : Room := { frames := 3, cells := 0, slots := 0, locals := 80 }
theorem yX11_back_ok : xY yX11_back cX11_back 2 (some .int) 1 := ⟨xT_at 891 (by decide +kernel) rfl, xT_at 10 (by decide +kernel) rfl, by decide +kernel, by decide +kernel, by decide +kernel⟩
theorem ivX11_back : Cond.instanceMethod yX11_back ∈ xT := xT_at 889 (by decide +kernel) rfl
theorem slX11_back : Cond.selects yX11_back.cls yX11_back yX11_back ∈ xT := xT_at 890 (by decide +kernel) rfl
def rX11_turnBack : Room := { frames := 0, cells := 0, slots := 0, locals := 0 }
theorem yX11_turnBack_ok : xY yX11_turnBack cX11_turnBack 8 (none : Option Jvm.ClassFile.FieldType) 2 := ⟨xT_at 894 (by decide +kernel) rfl, xT_at 10 (by decide +kernel) rfl, by decide +kernel, by decide +kernel, by decide +kernel⟩
theorem ssX11_turnBack : Cond.static yX11_turnBack ∈ xT := xT_at 893 (by decide +kernel) rfl
def rX11_image : Room := { frames := 3, cells := 0, slots := 0, locals := 82 }
theorem yX11_image_ok : xY yX11_image cX11_image 6 (some .int) 2 := ⟨xT_at 898 (by decide +kernel) rfl, xT_at 10 (by decide +kernel) rfl, by decide +kernel, by decide +kernel, by decide +kernel⟩
theorem ivX11_image : Cond.instanceMethod yX11_image ∈ xT := xT_at 896 (by decide +kernel) rfl
theorem slX11_image : Cond.selects yX11_image.cls yX11_image yX11_image ∈ xT := xT_at 897 (by decide +kernel) rfl
def rX11_conicImage : Room := { frames := 1, cells := 0, slots := 0, locals := 24 }
theorem yX11_conicImage_ok : xY yX11_conicImage cX11_conicImage 5 (none : Option Jvm.ClassFile.FieldType) 1 := ⟨xT_at 902 (by decide +kernel) rfl, xT_at 10 (by decide +kernel) rfl, by decide +kernel, by decide +kernel, by decide +kernel⟩
theorem ivX11_conicImage : Cond.instanceMethod yX11_conicImage ∈ xT := xT_at 901 (by decide +kernel) rfl
theorem slX11_conicImage : Cond.selects yX11_conicImage.cls yX11_conicImage yX11_conicImage ∈ xT := xT_priv (n := 18) 54 (by decide +kernel)
def rX11_kind : Room := { frames := 3, cells := 0, slots := 0, locals := 81 }
theorem yX11_kind_ok : xY yX11_kind cX11_kind 2 (some .int) 1 := ⟨xT_at 906 (by decide +kernel) rfl, xT_at 10 (by decide +kernel) rfl, by decide +kernel, by decide +kernel, by decide +kernel⟩
theorem ivX11_kind : Cond.instanceMethod yX11_kind ∈ xT := xT_at 904 (by decide +kernel) rfl
theorem slX11_kind : Cond.selects yX11_kind.cls yX11_kind yX11_kind ∈ xT := xT_at 905 (by decide +kernel) rfl
def rX11_isAll : Room := { frames := 0, cells := 0, slots := 0, locals := 0 }
theorem yX11_isAll_ok : xY yX11_isAll cX11_isAll 2 (some .boolean) 1 := ⟨xT_at 910 (by decide +kernel) rfl, xT_at 10 (by decide +kernel) rfl, by decide +kernel, by decide +kernel, by decide +kernel⟩
theorem ivX11_isAll : Cond.instanceMethod yX11_isAll ∈ xT := xT_at 909 (by decide +kernel) rfl
theorem slX11_isAll : Cond.selects yX11_isAll.cls yX11_isAll yX11_isAll ∈ xT := xT_priv (n := 18) 55 (by decide +kernel)
def rX11_flatKind : Room := { frames := 2, cells := 0, slots := 0, locals := 48 }
theorem yX11_flatKind_ok : xY yX11_flatKind cX11_flatKind 14 (some .int) 0 := ⟨xT_at 914 (by decide +kernel) rfl, xT_at 10 (by decide +kernel) rfl, by decide +kernel, by decide +kernel, by decide +kernel⟩
theorem ivX11_flatKind : Cond.instanceMethod yX11_flatKind ∈ xT := xT_at 913 (by decide +kernel) rfl
theorem slX11_flatKind : Cond.selects yX11_flatKind.cls yX11_flatKind yX11_flatKind ∈ xT := xT_priv (n := 18) 56 (by decide +kernel)
def rX11_isTwiceAll : Room := { frames := 1, cells := 0, slots := 0, locals := 24 }
theorem yX11_isTwiceAll_ok : xY yX11_isTwiceAll cX11_isTwiceAll 2 (some .boolean) 1 := ⟨xT_at 918 (by decide +kernel) rfl, xT_at 10 (by decide +kernel) rfl, by decide +kernel, by decide +kernel, by decide +kernel⟩
theorem ivX11_isTwiceAll : Cond.instanceMethod yX11_isTwiceAll ∈ xT := xT_at 917 (by decide +kernel) rfl
theorem slX11_isTwiceAll : Cond.selects yX11_isTwiceAll.cls yX11_isTwiceAll yX11_isTwiceAll ∈ xT := xT_priv (n := 18) 57 (by decide +kernel)
def rX11_rank : Room := { frames := 1, cells := 0, slots := 0, locals := 20 }
theorem yX11_rank_ok : xY yX11_rank cX11_rank 9 (some .int) 2 := ⟨xT_at 922 (by decide +kernel) rfl, xT_at 10 (by decide +kernel) rfl, by decide +kernel, by decide +kernel, by decide +kernel⟩
theorem ivX11_rank : Cond.instanceMethod yX11_rank ∈ xT := xT_at 921 (by decide +kernel) rfl
theorem slX11_rank : Cond.selects yX11_rank.cls yX11_rank yX11_rank ∈ xT := xT_priv (n := 18) 58 (by decide +kernel)
def rX11_farKind : Room := { frames := 2, cells := 0, slots := 0, locals := 48 }
theorem yX11_farKind_ok : xY yX11_farKind cX11_farKind 12 (some .int) 0 := ⟨xT_at 926 (by decide +kernel) rfl, xT_at 10 (by decide +kernel) rfl, by decide +kernel, by decide +kernel, by decide +kernel⟩
theorem ivX11_farKind : Cond.instanceMethod yX11_farKind ∈ xT := xT_at 925 (by decide +kernel) rfl
theorem slX11_farKind : Cond.selects yX11_farKind.cls yX11_farKind yX11_farKind ∈ xT := xT_priv (n := 18) 59 (by decide +kernel)
def rX11_own : Room := { frames := 3, cells := 0, slots := 0, locals := 72 }
theorem yX11_own_ok : xY yX11_own cX11_own 3 (some .long) 2 := ⟨xT_at 932 (by decide +kernel) rfl, xT_at 10 (by decide +kernel) rfl, by decide +kernel, by decide +kernel, by decide +kernel⟩
theorem ivX11_own : Cond.instanceMethod yX11_own ∈ xT := xT_at 930 (by decide +kernel) rfl
theorem slX11_own : Cond.selects yX11_own.cls yX11_own yX11_own ∈ xT := xT_at 931 (by decide +kernel) rfl
def rX11_value : Room := { frames := 2, cells := 0, slots := 0, locals := 48 }
theorem yX11_value_ok : xY yX11_value cX11_value 5 (some .long) 1 := ⟨xT_at 936 (by decide +kernel) rfl, xT_at 10 (by decide +kernel) rfl, by decide +kernel, by decide +kernel, by decide +kernel⟩
theorem ivX11_value : Cond.instanceMethod yX11_value ∈ xT := xT_at 935 (by decide +kernel) rfl
theorem slX11_value : Cond.selects yX11_value.cls yX11_value yX11_value ∈ xT := xT_priv (n := 18) 60 (by decide +kernel)
def rX11_fixed : Room := { frames := 3, cells := 0, slots := 0, locals := 82 }
theorem yX11_fixed_ok : xY yX11_fixed cX11_fixed 6 (some .int) 2 := ⟨xT_at 940 (by decide +kernel) rfl, xT_at 10 (by decide +kernel) rfl, by decide +kernel, by decide +kernel, by decide +kernel⟩
theorem ivX11_fixed : Cond.instanceMethod yX11_fixed ∈ xT := xT_at 938 (by decide +kernel) rfl
theorem slX11_fixed : Cond.selects yX11_fixed.cls yX11_fixed yX11_fixed ∈ xT := xT_at 939 (by decide +kernel) rfl
def rX11_order : Room := { frames := 2, cells := 0, slots := 0, locals := 57 }
theorem yX11_order_ok : xY yX11_order cX11_order 5 (some .int) 2 := ⟨xT_at 944 (by decide +kernel) rfl, xT_at 10 (by decide +kernel) rfl, by decide +kernel, by decide +kernel, by decide +kernel⟩
theorem ivX11_order : Cond.instanceMethod yX11_order ∈ xT := xT_at 942 (by decide +kernel) rfl
theorem slX11_order : Cond.selects yX11_order.cls yX11_order yX11_order ∈ xT := xT_at 943 (by decide +kernel) rfl
def rX11_seed : Room := { frames := 1, cells := 0, slots := 0, locals := 21 }
theorem yX11_seed_ok : xY yX11_seed cX11_seed 2 (some .int) 1 := ⟨xT_at 949 (by decide +kernel) rfl, xT_at 10 (by decide +kernel) rfl, by decide +kernel, by decide +kernel, by decide +kernel⟩
theorem ivX11_seed : Cond.instanceMethod yX11_seed ∈ xT := xT_at 947 (by decide +kernel) rfl
theorem slX11_seed : Cond.selects yX11_seed.cls yX11_seed yX11_seed ∈ xT := xT_at 948 (by decide +kernel) rfl
def rX11_group : Room := { frames := 2, cells := 0, slots := 0, locals := 57 }
theorem yX11_group_ok : xY yX11_group cX11_group 6 (some .int) 1 := ⟨xT_at 953 (by decide +kernel) rfl, xT_at 10 (by decide +kernel) rfl, by decide +kernel, by decide +kernel, by decide +kernel⟩
theorem ivX11_group : Cond.instanceMethod yX11_group ∈ xT := xT_at 951 (by decide +kernel) rfl
theorem slX11_group : Cond.selects yX11_group.cls yX11_group yX11_group ∈ xT := xT_at 952 (by decide +kernel) rfl
def rX11_find : Room := { frames := 0, cells := 0, slots := 0, locals := 0 }
theorem yX11_find_ok : xY yX11_find cX11_find 4 (some .int) 0 := ⟨xT_at 958 (by decide +kernel) rfl, xT_at 10 (by decide +kernel) rfl, by decide +kernel, by decide +kernel, by decide +kernel⟩
theorem ivX11_find : Cond.instanceMethod yX11_find ∈ xT := xT_at 957 (by decide +kernel) rfl
theorem slX11_find : Cond.selects yX11_find.cls yX11_find yX11_find ∈ xT := xT_priv (n := 18) 61 (by decide +kernel)
def rX11_element : Room := { frames := 1, cells := 0, slots := 0, locals := 25 }
theorem yX11_element_ok : xY yX11_element cX11_element 3 (some .int) 2 := ⟨xT_at 962 (by decide +kernel) rfl, xT_at 10 (by decide +kernel) rfl, by decide +kernel, by decide +kernel, by decide +kernel⟩
theorem ivX11_element : Cond.instanceMethod yX11_element ∈ xT := xT_at 960 (by decide +kernel) rfl
theorem slX11_element : Cond.selects yX11_element.cls yX11_element yX11_element ∈ xT := xT_at 961 (by decide +kernel) rfl
def rX11_among : Room := { frames := 1, cells := 0, slots := 0, locals := 23 }
theorem yX11_among_ok : xY yX11_among cX11_among 2 (some .int) 1 := ⟨xT_at 966 (by decide +kernel) rfl, xT_at 10 (by decide +kernel) rfl, by decide +kernel, by decide +kernel, by decide +kernel⟩
theorem ivX11_among : Cond.instanceMethod yX11_among ∈ xT := xT_at 964 (by decide +kernel) rfl
theorem slX11_among : Cond.selects yX11_among.cls yX11_among yX11_among ∈ xT := xT_at 965 (by decide +kernel) rfl
theorem lkL_13 : Cond.methodLink RL 13 yX10_point ∈ xT := xT_at 240 (by decide +kernel) rfl
theorem lkL_17 : Cond.methodLink RL 17 yX11_point ∈ xT := xT_at 678 (by decide +kernel) rfl
theorem lkL_18 : Cond.methodLink RL 18 yX10_line ∈ xT := xT_at 271 (by decide +kernel) rfl
theorem lkL_21 : Cond.methodLink RL 21 yX11_line ∈ xT := xT_at 703 (by decide +kernel) rfl
theorem lkL_22 : Cond.methodLink RL 22 yX10_conic ∈ xT := xT_at 275 (by decide +kernel) rfl
theorem lkL_26 : Cond.methodLink RL 26 yX11_conic ∈ xT := xT_at 707 (by decide +kernel) rfl
theorem lkL_27 : Cond.methodLink RL 27 yX10_number ∈ xT := xT_at 279 (by decide +kernel) rfl
theorem lkL_31 : Cond.methodLink RL 31 yX11_number ∈ xT := xT_at 711 (by decide +kernel) rfl
theorem lkL_32 : Cond.methodLink RL 32 yX10_join ∈ xT := xT_at 292 (by decide +kernel) rfl
theorem lkL_35 : Cond.methodLink RL 35 yX11_join ∈ xT := xT_at 717 (by decide +kernel) rfl
theorem lkL_36 : Cond.methodLink RL 36 yX10_on ∈ xT := xT_at 306 (by decide +kernel) rfl
theorem lkL_39 : Cond.methodLink RL 39 yX11_on ∈ xT := xT_at 733 (by decide +kernel) rfl
theorem lkL_40 : Cond.methodLink RL 40 yX10_shape ∈ xT := xT_at 316 (by decide +kernel) rfl
theorem lkL_44 : Cond.methodLink RL 44 yX11_shape ∈ xT := xT_at 741 (by decide +kernel) rfl
theorem lkL_45 : Cond.methodLink RL 45 yX10_cross ∈ xT := xT_at 332 (by decide +kernel) rfl
theorem lkL_49 : Cond.methodLink RL 49 yX11_cross ∈ xT := xT_at 746 (by decide +kernel) rfl
theorem lkL_50 : Cond.methodLink RL 50 yX10_give ∈ xT := xT_at 343 (by decide +kernel) rfl
theorem lkL_53 : Cond.methodLink RL 53 yX11_give ∈ xT := xT_at 759 (by decide +kernel) rfl
theorem lkL_54 : Cond.methodLink RL 54 yX10_make ∈ xT := xT_at 352 (by decide +kernel) rfl
theorem lkL_57 : Cond.methodLink RL 57 yX11_make ∈ xT := xT_at 763 (by decide +kernel) rfl
theorem lkL_58 : Cond.methodLink RL 58 yX10_count ∈ xT := xT_at 447 (by decide +kernel) rfl
theorem lkL_61 : Cond.methodLink RL 61 yX11_count ∈ xT := xT_at 868 (by decide +kernel) rfl
theorem lkL_62 : Cond.methodLink RL 62 yX10_entry ∈ xT := xT_at 456 (by decide +kernel) rfl
theorem lkL_65 : Cond.methodLink RL 65 yX11_entry ∈ xT := xT_at 872 (by decide +kernel) rfl
theorem lkL_66 : Cond.methodLink RL 66 yX10_then ∈ xT := xT_at 460 (by decide +kernel) rfl
theorem lkL_69 : Cond.methodLink RL 69 yX11_then ∈ xT := xT_at 880 (by decide +kernel) rfl
theorem lkL_70 : Cond.methodLink RL 70 yX10_back ∈ xT := xT_at 467 (by decide +kernel) rfl
theorem lkL_73 : Cond.methodLink RL 73 yX11_back ∈ xT := xT_at 888 (by decide +kernel) rfl
theorem lkL_74 : Cond.methodLink RL 74 yX10_image ∈ xT := xT_at 475 (by decide +kernel) rfl
theorem lkL_77 : Cond.methodLink RL 77 yX11_image ∈ xT := xT_at 895 (by decide +kernel) rfl
theorem lkL_78 : Cond.methodLink RL 78 yX10_kind ∈ xT := xT_at 498 (by decide +kernel) rfl
theorem lkL_81 : Cond.methodLink RL 81 yX11_kind ∈ xT := xT_at 903 (by decide +kernel) rfl
theorem lkL_82 : Cond.methodLink RL 82 yX10_own ∈ xT := xT_at 570 (by decide +kernel) rfl
theorem lkL_86 : Cond.methodLink RL 86 yX11_own ∈ xT := xT_at 929 (by decide +kernel) rfl
theorem lkL_87 : Cond.methodLink RL 87 yX10_fixed ∈ xT := xT_at 577 (by decide +kernel) rfl
theorem lkL_90 : Cond.methodLink RL 90 yX11_fixed ∈ xT := xT_at 937 (by decide +kernel) rfl
theorem lkL_91 : Cond.methodLink RL 91 yX10_order ∈ xT := xT_at 582 (by decide +kernel) rfl
theorem lkL_94 : Cond.methodLink RL 94 yX11_order ∈ xT := xT_at 941 (by decide +kernel) rfl
theorem lkL_95 : Cond.methodLink RL 95 yX10_seed ∈ xT := xT_at 588 (by decide +kernel) rfl
theorem lkL_98 : Cond.methodLink RL 98 yX11_seed ∈ xT := xT_at 946 (by decide +kernel) rfl
theorem lkL_99 : Cond.methodLink RL 99 yX10_group ∈ xT := xT_at 592 (by decide +kernel) rfl
theorem lkL_102 : Cond.methodLink RL 102 yX11_group ∈ xT := xT_at 950 (by decide +kernel) rfl
theorem lkL_103 : Cond.methodLink RL 103 yX10_element ∈ xT := xT_at 608 (by decide +kernel) rfl
theorem lkL_106 : Cond.methodLink RL 106 yX11_element ∈ xT := xT_at 959 (by decide +kernel) rfl
theorem lkL_107 : Cond.methodLink RL 107 yX10_among ∈ xT := xT_at 612 (by decide +kernel) rfl
theorem lkL_110 : Cond.methodLink RL 110 yX11_among ∈ xT := xT_at 963 (by decide +kernel) rfl
theorem lkX0_30 : Cond.methodLink RX0 30 yX0_restart ∈ xT := xT_at 147 (by decide +kernel) rfl
theorem lkX0_33 : Cond.methodLink RX0 33 yX8_size ∈ xT := xT_at 600 (by decide +kernel) rfl
theorem lkX0_37 : Cond.methodLink RX0 37 yX4_size ∈ xT := xT_at 601 (by decide +kernel) rfl
theorem lkX0_40 : Cond.methodLink RX0 40 yX8_load ∈ xT := xT_at 602 (by decide +kernel) rfl
theorem lkX0_44 : Cond.methodLink RX0 44 yX4_member ∈ xT := xT_at 603 (by decide +kernel) rfl
theorem lkX0_48 : Cond.methodLink RX0 48 yX9_product ∈ xT := xT_at 604 (by decide +kernel) rfl
theorem lkX0_56 : Cond.methodLink RX0 56 yX3_reduce ∈ xT := xT_at 606 (by decide +kernel) rfl
theorem lkX0_62 : Cond.methodLink RX0 62 yX8_find ∈ xT := xT_at 607 (by decide +kernel) rfl
theorem lkX0_66 : Cond.methodLink RX0 66 yX8_keep ∈ xT := xT_at 158 (by decide +kernel) rfl
theorem lkX0_69 : Cond.methodLink RX0 69 yX8_clear ∈ xT := xT_at 151 (by decide +kernel) rfl
theorem lkX0_72 : Cond.methodLink RX0 72 yX9_putRow ∈ xT := xT_at 155 (by decide +kernel) rfl
theorem lkX1_24 : Cond.methodLink RX1 24 yX9_adjugate ∈ xT := xT_at 483 (by decide +kernel) rfl
theorem lkX1_30 : Cond.methodLink RX1 30 yX9_transpose ∈ xT := xT_at 484 (by decide +kernel) rfl
theorem lkX1_33 : Cond.methodLink RX1 33 yX9_apply ∈ xT := xT_at 497 (by decide +kernel) rfl
theorem lkX1_37 : Cond.methodLink RX1 37 yX7_evenTable ∈ xT := xT_at 487 (by decide +kernel) rfl
theorem lkX1_42 : Cond.methodLink RX1 42 yX9_product ∈ xT := xT_at 488 (by decide +kernel) rfl
theorem lkX10_87 : Cond.methodLink RX10 87 yX10_keepTriple ∈ xT := xT_at 244 (by decide +kernel) rfl
theorem lkX10_91 : Cond.methodLink RX10 91 yX10_keepGiven ∈ xT := xT_at 248 (by decide +kernel) rfl
theorem lkX10_95 : Cond.methodLink RX10 95 yX8_sortOf ∈ xT := xT_at 283 (by decide +kernel) rfl
theorem lkX10_99 : Cond.methodLink RX10 99 yX8_cell ∈ xT := xT_at 291 (by decide +kernel) rfl
theorem lkX10_103 : Cond.methodLink RX10 103 yX8_load ∈ xT := xT_at 296 (by decide +kernel) rfl
theorem lkX10_107 : Cond.methodLink RX10 107 yX7_wedge ∈ xT := xT_at 300 (by decide +kernel) rfl
theorem lkX10_113 : Cond.methodLink RX10 113 yX10_keepObject ∈ xT := xT_at 256 (by decide +kernel) rfl
theorem lkX10_116 : Cond.methodLink RX10 116 yX7_dot ∈ xT := xT_at 310 (by decide +kernel) rfl
theorem lkX10_120 : Cond.methodLink RX10 120 yX7_conicAt ∈ xT := xT_at 313 (by decide +kernel) rfl
theorem lkX10_123 : Cond.methodLink RX10 123 yX7_shapeOf ∈ xT := xT_at 320 (by decide +kernel) rfl
theorem lkX10_131 : Cond.methodLink RX10 131 yX10_crossRatio ∈ xT := xT_at 337 (by decide +kernel) rfl
theorem lkX10_135 : Cond.methodLink RX10 135 yX8_has ∈ xT := xT_at 347 (by decide +kernel) rfl
theorem lkX10_139 : Cond.methodLink RX10 139 yX4_append ∈ xT := xT_at 348 (by decide +kernel) rfl
theorem lkX10_144 : Cond.methodLink RX10 144 yX10_beyond ∈ xT := xT_at 253 (by decide +kernel) rfl
theorem lkX10_148 : Cond.methodLink RX10 148 yX5_take ∈ xT := xT_at 357 (by decide +kernel) rfl
theorem lkX10_152 : Cond.methodLink RX10 152 yX4_clear ∈ xT := xT_at 372 (by decide +kernel) rfl
theorem lkX10_155 : Cond.methodLink RX10 155 yX5_build ∈ xT := xT_at 376 (by decide +kernel) rfl
theorem lkX10_159 : Cond.methodLink RX10 159 yX10_keepMap ∈ xT := xT_at 443 (by decide +kernel) rfl
theorem lkX10_163 : Cond.methodLink RX10 163 yX8_size ∈ xT := xT_at 451 (by decide +kernel) rfl
theorem lkX10_167 : Cond.methodLink RX10 167 yX4_size ∈ xT := xT_at 455 (by decide +kernel) rfl
theorem lkX10_168 : Cond.methodLink RX10 168 yX9_product ∈ xT := xT_at 464 (by decide +kernel) rfl
theorem lkX10_173 : Cond.methodLink RX10 173 yX9_adjugate ∈ xT := xT_at 471 (by decide +kernel) rfl
theorem lkX10_177 : Cond.methodLink RX10 177 yX1_ofConic ∈ xT := xT_at 479 (by decide +kernel) rfl
theorem lkX10_180 : Cond.methodLink RX10 180 yX9_apply ∈ xT := xT_at 490 (by decide +kernel) rfl
theorem lkX10_183 : Cond.methodLink RX10 183 yX1_ofLine ∈ xT := xT_at 493 (by decide +kernel) rfl
theorem lkX10_186 : Cond.methodLink RX10 186 yX2_keepsFar ∈ xT := xT_at 502 (by decide +kernel) rfl
theorem lkX10_192 : Cond.methodLink RX10 192 yX2_ofAffine ∈ xT := xT_at 505 (by decide +kernel) rfl
theorem lkX10_195 : Cond.methodLink RX10 195 yX2_ofProjective ∈ xT := xT_at 524 (by decide +kernel) rfl
theorem lkX10_199 : Cond.methodLink RX10 199 yX6_find ∈ xT := xT_at 574 (by decide +kernel) rfl
theorem lkX10_203 : Cond.methodLink RX10 203 yX6_has ∈ xT := xT_at 575 (by decide +kernel) rfl
theorem lkX10_204 : Cond.methodLink RX10 204 yX6_value ∈ xT := xT_at 576 (by decide +kernel) rfl
theorem lkX10_207 : Cond.methodLink RX10 207 yX6_fixedBy ∈ xT := xT_at 581 (by decide +kernel) rfl
theorem lkX10_214 : Cond.methodLink RX10 214 yX2_allStays ∈ xT := xT_at 586 (by decide +kernel) rfl
theorem lkX10_219 : Cond.methodLink RX10 219 yX3_reduce ∈ xT := xT_at 260 (by decide +kernel) rfl
theorem lkX10_231 : Cond.methodLink RX10 231 yX0_grow ∈ xT := xT_at 596 (by decide +kernel) rfl
theorem lkX10_238 : Cond.methodLink RX10 238 yX8_find ∈ xT := xT_at 616 (by decide +kernel) rfl
theorem lkX10_240 : Cond.methodLink RX10 240 yX8_keep ∈ xT := xT_at 270 (by decide +kernel) rfl
theorem lkX10_243 : Cond.methodLink RX10 243 yX7_wedgeCell ∈ xT := xT_at 341 (by decide +kernel) rfl
theorem lkX10_247 : Cond.methodLink RX10 247 yX3_divisor ∈ xT := xT_at 342 (by decide +kernel) rfl
theorem lkX11_45 : Cond.methodLink RX11 45 yX11_gcd ∈ xT := xT_at 699 (by decide +kernel) rfl
theorem lkX11_58 : Cond.methodLink RX11 58 yX11_least ∈ xT := xT_at 695 (by decide +kernel) rfl
theorem lkX11_62 : Cond.methodLink RX11 62 yX11_in ∈ xT := xT_at 688 (by decide +kernel) rfl
theorem lkX11_66 : Cond.methodLink RX11 66 yX11_object ∈ xT := xT_at 691 (by decide +kernel) rfl
theorem lkX11_70 : Cond.methodLink RX11 70 yX11_three ∈ xT := xT_at 682 (by decide +kernel) rfl
theorem lkX11_78 : Cond.methodLink RX11 78 yX11_at ∈ xT := xT_at 729 (by decide +kernel) rfl
theorem lkX11_82 : Cond.methodLink RX11 82 yX11_isSort ∈ xT := xT_at 721 (by decide +kernel) rfl
theorem lkX11_86 : Cond.methodLink RX11 86 yX11_crossOf ∈ xT := xT_at 725 (by decide +kernel) rfl
theorem lkX11_90 : Cond.methodLink RX11 90 yX11_dot ∈ xT := xT_at 737 (by decide +kernel) rfl
theorem lkX11_95 : Cond.methodLink RX11 95 yX11_part ∈ xT := xT_at 754 (by decide +kernel) rfl
theorem lkX11_99 : Cond.methodLink RX11 99 yX11_areInLine ∈ xT := xT_at 750 (by decide +kernel) rfl
theorem lkX11_111 : Cond.methodLink RX11 111 yX11_areGiven ∈ xT := xT_at 774 (by decide +kernel) rfl
theorem lkX11_114 : Cond.methodLink RX11 114 yX11_isFar ∈ xT := xT_at 778 (by decide +kernel) rfl
theorem lkX11_120 : Cond.methodLink RX11 120 yX11_set ∈ xT := xT_at 783 (by decide +kernel) rfl
theorem lkX11_124 : Cond.methodLink RX11 124 yX11_mirror ∈ xT := xT_at 770 (by decide +kernel) rfl
theorem lkX11_128 : Cond.methodLink RX11 128 yX11_times ∈ xT := xT_at 791 (by decide +kernel) rfl
theorem lkX11_132 : Cond.methodLink RX11 132 yX11_det ∈ xT := xT_at 798 (by decide +kernel) rfl
theorem lkX11_140 : Cond.methodLink RX11 140 yX11_mod ∈ xT := xT_at 824 (by decide +kernel) rfl
theorem lkX11_144 : Cond.methodLink RX11 144 yX11_turned ∈ xT := xT_at 836 (by decide +kernel) rfl
theorem lkX11_147 : Cond.methodLink RX11 147 yX11_share ∈ xT := xT_at 844 (by decide +kernel) rfl
theorem lkX11_150 : Cond.methodLink RX11 150 yX11_inverse ∈ xT := xT_at 828 (by decide +kernel) rfl
theorem lkX11_153 : Cond.methodLink RX11 153 yX11_place ∈ xT := xT_at 820 (by decide +kernel) rfl
theorem lkX11_162 : Cond.methodLink RX11 162 yX11_small ∈ xT := xT_at 852 (by decide +kernel) rfl
theorem lkX11_166 : Cond.methodLink RX11 166 yX11_takes ∈ xT := xT_at 860 (by decide +kernel) rfl
theorem lkX11_175 : Cond.methodLink RX11 175 yX11_likeness ∈ xT := xT_at 816 (by decide +kernel) rfl
theorem lkX11_178 : Cond.methodLink RX11 178 yX11_affine ∈ xT := xT_at 832 (by decide +kernel) rfl
theorem lkX11_181 : Cond.methodLink RX11 181 yX11_projective ∈ xT := xT_at 840 (by decide +kernel) rfl
theorem lkX11_184 : Cond.methodLink RX11 184 yX11_tellBack ∈ xT := xT_at 848 (by decide +kernel) rfl
theorem lkX11_187 : Cond.methodLink RX11 187 yX11_isTried ∈ xT := xT_at 856 (by decide +kernel) rfl
theorem lkX11_190 : Cond.methodLink RX11 190 yX11_map ∈ xT := xT_at 864 (by decide +kernel) rfl
theorem lkX11_200 : Cond.methodLink RX11 200 yX11_glide ∈ xT := xT_at 787 (by decide +kernel) rfl
theorem lkX11_204 : Cond.methodLink RX11 204 yX11_any ∈ xT := xT_at 794 (by decide +kernel) rfl
theorem lkX11_207 : Cond.methodLink RX11 207 yX11_simple ∈ xT := xT_at 801 (by decide +kernel) rfl
theorem lkX11_211 : Cond.methodLink RX11 211 yX11_mayBe ∈ xT := xT_at 805 (by decide +kernel) rfl
theorem lkX11_214 : Cond.methodLink RX11 214 yX11_byPoints ∈ xT := xT_at 809 (by decide +kernel) rfl
theorem lkX11_217 : Cond.methodLink RX11 217 yX11_isMap ∈ xT := xT_at 876 (by decide +kernel) rfl
theorem lkX11_220 : Cond.methodLink RX11 220 yX11_bring ∈ xT := xT_at 884 (by decide +kernel) rfl
theorem lkX11_224 : Cond.methodLink RX11 224 yX11_turnBack ∈ xT := xT_at 892 (by decide +kernel) rfl
theorem lkX11_228 : Cond.methodLink RX11 228 yX11_conicImage ∈ xT := xT_at 899 (by decide +kernel) rfl
theorem lkX11_232 : Cond.methodLink RX11 232 yX11_isAll ∈ xT := xT_at 907 (by decide +kernel) rfl
theorem lkX11_236 : Cond.methodLink RX11 236 yX11_flatKind ∈ xT := xT_at 911 (by decide +kernel) rfl
theorem lkX11_239 : Cond.methodLink RX11 239 yX11_farKind ∈ xT := xT_at 923 (by decide +kernel) rfl
theorem lkX11_242 : Cond.methodLink RX11 242 yX11_isTwiceAll ∈ xT := xT_at 915 (by decide +kernel) rfl
theorem lkX11_245 : Cond.methodLink RX11 245 yX11_rank ∈ xT := xT_at 919 (by decide +kernel) rfl
theorem lkX11_253 : Cond.methodLink RX11 253 yX11_value ∈ xT := xT_at 933 (by decide +kernel) rfl
theorem lkX11_264 : Cond.methodLink RX11 264 yX11_find ∈ xT := xT_at 955 (by decide +kernel) rfl
theorem lkX2_7 : Cond.methodLink RX2 7 yX2_ofLikeness ∈ xT := xT_at 508 (by decide +kernel) rfl
theorem lkX2_13 : Cond.methodLink RX2 13 yX2_ofTurnedOver ∈ xT := xT_at 517 (by decide +kernel) rfl
theorem lkX2_16 : Cond.methodLink RX2 16 yX2_keepsLineOfPoints ∈ xT := xT_at 520 (by decide +kernel) rfl
theorem lkX2_26 : Cond.methodLink RX2 26 yX2_allStays ∈ xT := xT_at 511 (by decide +kernel) rfl
theorem lkX2_29 : Cond.methodLink RX2 29 yX2_keepsSizes ∈ xT := xT_at 514 (by decide +kernel) rfl
theorem lkX2_32 : Cond.methodLink RX2 32 yX6_find ∈ xT := xT_at 527 (by decide +kernel) rfl
theorem lkX2_38 : Cond.methodLink RX2 38 yX6_has ∈ xT := xT_at 547 (by decide +kernel) rfl
theorem lkX2_42 : Cond.methodLink RX2 42 yX6_value ∈ xT := xT_at 551 (by decide +kernel) rfl
theorem lkX2_46 : Cond.methodLink RX2 46 yX6_fixedBy ∈ xT := xT_at 556 (by decide +kernel) rfl
theorem lkX2_50 : Cond.methodLink RX2 50 yX9_trace ∈ xT := xT_at 568 (by decide +kernel) rfl
theorem lkX3_15 : Cond.methodLink RX3 15 yX3_divisor ∈ xT := xT_at 263 (by decide +kernel) rfl
theorem lkX3_19 : Cond.methodLinkNest RX3 19 yX10_beyond "TransformRows" ∈ tables_1 := List.mem_of_getElem? (i := 269) (by decide +kernel)
theorem lkX5_33 : Cond.methodLink RX5 33 yX4_size ∈ xT := xT_at 361 (by decide +kernel) rfl
theorem lkX5_48 : Cond.methodLink RX5 48 yX4_member ∈ xT := xT_at 366 (by decide +kernel) rfl
theorem lkX5_52 : Cond.methodLink RX5 52 yX8_sortOf ∈ xT := xT_at 370 (by decide +kernel) rfl
theorem lkX5_57 : Cond.methodLink RX5 57 yX8_load ∈ xT := xT_at 371 (by decide +kernel) rfl
theorem lkX5_61 : Cond.methodLink RX5 61 yX5_buildShift ∈ xT := xT_at 380 (by decide +kernel) rfl
theorem lkX5_65 : Cond.methodLink RX5 65 yX5_buildTurn ∈ xT := xT_at 396 (by decide +kernel) rfl
theorem lkX5_69 : Cond.methodLink RX5 69 yX5_buildGlide ∈ xT := xT_at 401 (by decide +kernel) rfl
theorem lkX5_72 : Cond.methodLink RX5 72 yX5_buildStretch ∈ xT := xT_at 406 (by decide +kernel) rfl
theorem lkX5_75 : Cond.methodLink RX5 75 yX5_buildLikeness ∈ xT := xT_at 410 (by decide +kernel) rfl
theorem lkX5_78 : Cond.methodLink RX5 78 yX5_buildAffine ∈ xT := xT_at 414 (by decide +kernel) rfl
theorem lkX5_81 : Cond.methodLink RX5 81 yX5_buildProjective ∈ xT := xT_at 428 (by decide +kernel) rfl
theorem lkX5_84 : Cond.methodLink RX5 84 yX5_buildAny ∈ xT := xT_at 438 (by decide +kernel) rfl
theorem lkX5_87 : Cond.methodLink RX5 87 yX5_areNear ∈ xT := xT_at 384 (by decide +kernel) rfl
theorem lkX5_91 : Cond.methodLink RX5 91 yX5_putLikeness ∈ xT := xT_at 392 (by decide +kernel) rfl
theorem lkX5_97 : Cond.methodLink RX5 97 yX5_areAll ∈ xT := xT_at 388 (by decide +kernel) rfl
theorem lkX5_103 : Cond.methodLink RX5 103 yX9_putRow ∈ xT := xT_at 395 (by decide +kernel) rfl
theorem lkX5_109 : Cond.methodLink RX5 109 yX5_findSides ∈ xT := xT_at 418 (by decide +kernel) rfl
theorem lkX5_113 : Cond.methodLink RX5 113 yX5_putWeighted ∈ xT := xT_at 424 (by decide +kernel) rfl
theorem lkX5_116 : Cond.methodLink RX5 116 yX7_dot ∈ xT := xT_at 423 (by decide +kernel) rfl
theorem lkX5_122 : Cond.methodLink RX5 122 yX5_findWeights ∈ xT := xT_at 432 (by decide +kernel) rfl
theorem lkX5_126 : Cond.methodLink RX5 126 yX9_determinant ∈ xT := xT_at 442 (by decide +kernel) rfl
theorem lkX5_130 : Cond.methodLink RX5 130 yX7_wedge ∈ xT := xT_at 422 (by decide +kernel) rfl
theorem lkX5_136 : Cond.methodLink RX5 136 yX3_reduce ∈ xT := xT_at 437 (by decide +kernel) rfl
theorem lkX6_31 : Cond.methodLink RX6 31 yX6_has ∈ xT := xT_at 555 (by decide +kernel) rfl
theorem lkX6_35 : Cond.methodLink RX6 35 yX9_adjugate ∈ xT := xT_at 531 (by decide +kernel) rfl
theorem lkX6_41 : Cond.methodLink RX6 41 yX9_trace ∈ xT := xT_at 532 (by decide +kernel) rfl
theorem lkX6_45 : Cond.methodLink RX6 45 yX9_determinant ∈ xT := xT_at 535 (by decide +kernel) rfl
theorem lkX6_48 : Cond.methodLink RX6 48 yX6_widestRow ∈ xT := xT_at 536 (by decide +kernel) rfl
theorem lkX6_65 : Cond.methodLink RX6 65 yX9_transpose ∈ xT := xT_at 563 (by decide +kernel) rfl
theorem lkX6_68 : Cond.methodLink RX6 68 yX6_takeRow ∈ xT := xT_at 564 (by decide +kernel) rfl
theorem lkX7_7 : Cond.methodLink RX7 7 yX7_wedgeCell ∈ xT := xT_at 303 (by decide +kernel) rfl
theorem lkX7_15 : Cond.methodLink RX7 15 yX9_putRow ∈ xT := xT_at 327 (by decide +kernel) rfl
theorem lkX7_21 : Cond.methodLink RX7 21 yX7_evenTable ∈ xT := xT_at 323 (by decide +kernel) rfl
theorem lkX7_25 : Cond.methodLink RX7 25 yX9_determinant ∈ xT := xT_at 328 (by decide +kernel) rfl
theorem lkX8_31 : Cond.methodLink RX8 31 yX8_has ∈ xT := xT_at 287 (by decide +kernel) rfl
theorem lkX8_35 : Cond.methodLink RX8 35 yX8_cell ∈ xT := xT_at 170 (by decide +kernel) rfl
theorem lkX8_38 : Cond.methodLink RX8 38 yX8_isAt ∈ xT := xT_at 166 (by decide +kernel) rfl
theorem lkX8_42 : Cond.methodLink RX8 42 yX8_find ∈ xT := xT_at 162 (by decide +kernel) rfl
theorem lkX9_7 : Cond.methodLink RX9 7 yX9_putRow ∈ xT := xT_at 474 (by decide +kernel) rfl
